section
/-! pure rows to paste: stores, nI and lN arithmetic, masks, shifts, narrowing, branches by naturals (pk_le, pk_lt, pk_eq), loops (lp1 .. lp16: the measure of the state; rp1 ..: recursion), negatives. Take what you need -/
theorem pk_us {f : Nat → Int32} {k : Nat} {x : Int32} : upd f k x k = x := if_pos rfl
theorem pk_un {f : Nat → Int32} {k j : Nat} {x : Int32} (h : j ≠ k) : upd f k x j = f j := if_neg h
theorem pk_uLs {f : Nat → Int64} {k : Nat} {x : Int64} : vp_updL f k x k = x := if_pos rfl
theorem pk_uLn {f : Nat → Int64} {k j : Nat} {x : Int64} (h : j ≠ k) : vp_updL f k x j = f j := if_neg h
theorem pk_sub {a b : Nat} (h : b ≤ a) : nI a - nI b = nI (a - b) := by
  obtain ⟨c, rfl⟩ : ∃ c, a = c + b := ⟨a - b, by omega⟩
  rw [← nI_add, Int32.add_sub_cancel, Nat.add_sub_cancel]
theorem pk_m1 (n : Nat) : nI (n + 1) + (-1) = nI n := by
  rw [← nI_1, Int32.add_assoc, show (1 : Int32) + (-1) = 0 from rfl, Int32.add_zero]
theorem pk_mul (a b : Nat) : nI a * nI b = nI (a * b) := (Int32.ofNat_mul a b).symm
theorem pk_div {a d : Nat} (ha : a < 2 ^ 31) (h0 : 0 < d) (hd : d < 2 ^ 31) : nI a / nI d = nI (a / d) := by
  apply Int32.toInt_inj.mp
  rw [lg_idiv_nonneg (by rw [nI_toInt ha]; omega) (by rw [nI_toInt hd]; omega), nI_toInt ha, nI_toInt hd, nI_toInt (Nat.lt_of_le_of_lt (Nat.div_le_self a d) ha)]
  first | rfl | exact (Int.natCast_ediv _ _).symm
theorem pk_rem {a d : Nat} (ha : a < 2 ^ 31) (h0 : 0 < d) (hd : d < 2 ^ 31) : nI a - nI a / nI d * nI d = nI (a % d) := by
  rw [pk_div ha h0 hd, pk_mul, pk_sub (Nat.div_mul_le_self a d)]
  exact congrArg nI (by have := Nat.div_add_mod' a d; omega)
theorem pk_sub_toInt {a b : Nat} (ha : a < 2 ^ 30) (hb : b < 2 ^ 30) : (nI a - nI b).toInt = (a : Int) - b := by
  rw [Int32.toInt_sub, nI_toInt (by omega), nI_toInt (by omega)]
  exact Int.bmod_eq_of_le (by omega) (by omega)
theorem pk_sneg {a b : Nat} (hb : b < 2 ^ 30) (h : a < b) : nI a - nI b < 0 := by
  rw [Int32.lt_iff_toInt_lt, pk_sub_toInt (by omega) hb, show (0 : Int32).toInt = 0 from by decide]
  omega
theorem pk_ix (x : Int32) {n : Nat} (hn : n < 2 ^ 31) : x < 0 ∨ nI n ≤ x ∨ ∃ j : Nat, j < n ∧ x = nI j := by
  by_cases h : x < 0
  · exact Or.inl h
  · obtain ⟨j, hj, rfl⟩ := nI_of h
    by_cases h2 : j < n
    · exact Or.inr (Or.inr ⟨j, h2, rfl⟩)
    · exact Or.inr (Or.inl (nI_le (by omega) hj))
theorem pk_le {x y : Int32} {A B : Prop} (a b : Nat) (f : a ≤ b → A) (g : b < a → B) (hx : x = nI a := by rfl) (hy : y = nI b := by rfl) (ha : a < 2 ^ 31 := by omega) (hb : b < 2 ^ 31 := by omega) : (x ≤ y → A) ∧ (¬ x ≤ y → B) := by
  subst hx hy
  rw [nI_leI ha hb]
  exact ⟨f, fun z => g (by omega)⟩
theorem pk_lt {x y : Int32} {A B : Prop} (a b : Nat) (f : a < b → A) (g : b ≤ a → B) (hx : x = nI a := by rfl) (hy : y = nI b := by rfl) (ha : a < 2 ^ 31 := by omega) (hb : b < 2 ^ 31 := by omega) : (x < y → A) ∧ (¬ x < y → B) := by
  subst hx hy
  rw [nI_ltI ha hb]
  exact ⟨f, fun z => g (by omega)⟩
theorem pk_eq {x y : Int32} {A B : Prop} (a b : Nat) (f : a = b → A) (g : a ≠ b → B) (hx : x = nI a := by rfl) (hy : y = nI b := by rfl) (ha : a < 2 ^ 31 := by omega) (hb : b < 2 ^ 31 := by omega) : (x = y → A) ∧ (¬ x = y → B) := by
  subst hx hy
  rw [nI_eq ha hb]
  exact ⟨f, g⟩
theorem pk_in {x : Int32} (n N : Nat) (h : n < N) (hx : x = nI n := by rfl) (hN : N < 2 ^ 31 := by omega) : vp_in x N := by
  subst hx
  exact vp_in_nI h hN
theorem pk_cl {x : Int32} (n : Nat) (hx : x = nI n := by rfl) (h : n < 2 ^ 31 := by omega) : x.toNatClampNeg = n := by
  subst hx
  exact nI_clamp h
theorem pk_tn {n : Nat} (h : n < 2 ^ 32) : (nI n).toBitVec.toNat = n := Nat.mod_eq_of_lt h
theorem pk_and (x : Int32) {m : Int32} (k : Nat) (hm : m.toBitVec.toNat = 2 ^ k - 1) : x &&& m = nI (x.toBitVec.toNat % 2 ^ k) := by
  apply Int32.toBitVec_inj.mp
  apply BitVec.eq_of_toNat_eq
  rw [Int32.toBitVec_and, BitVec.toNat_and, hm, Nat.and_two_pow_sub_one_eq_mod]
  show _ = (BitVec.ofNat 32 _).toNat
  rw [BitVec.toNat_ofNat]
  exact (Nat.mod_eq_of_lt (Nat.lt_of_le_of_lt (Nat.mod_le _ _) x.toBitVec.isLt)).symm
theorem pk_andN {n : Nat} (h : n < 2 ^ 32) {m : Int32} (k : Nat) (hm : m.toBitVec.toNat = 2 ^ k - 1) : nI n &&& m = nI (n % 2 ^ k) := by
  rw [pk_and _ k hm, pk_tn h]
theorem pk_andE (x : Int32) {m : Int32} (k : Nat) (hm : m.toBitVec.toNat = 2 ^ k - 1) : ∃ j : Nat, j < 2 ^ k ∧ x &&& m = nI j := ⟨_, Nat.mod_lt _ (Nat.two_pow_pos k), pk_and x k hm⟩
theorem pk_andIn (x : Int32) {m : Int32} (k : Nat) (hm : m.toBitVec.toNat = 2 ^ k - 1) (hk : k ≤ 30) : vp_in (x &&& m) (2 ^ k) := by
  obtain ⟨j, hj, e⟩ := pk_andE x k hm
  rw [e]
  exact vp_in_nI hj (Nat.lt_of_le_of_lt (Nat.pow_le_pow_right (by decide) hk) (by decide))
theorem pk_shl (a s : Int32) (k : Nat) (hs : (s.toBitVec.smod 32).toNat = k) : (a <<< s).toBitVec.toNat = a.toBitVec.toNat * 2 ^ k % 2 ^ 32 := by
  show (a.toBitVec <<< (s.toBitVec.smod 32).toNat).toNat = _
  rw [hs, BitVec.toNat_shiftLeft, Nat.shiftLeft_eq]
theorem pk_shlN {n : Nat} (s : Int32) (k : Nat) (hs : (s.toBitVec.smod 32).toNat = k) (h : n * 2 ^ k < 2 ^ 32) : nI n <<< s = nI (n * 2 ^ k) := by
  apply Int32.toBitVec_inj.mp
  apply BitVec.eq_of_toNat_eq
  have hn : n < 2 ^ 32 := Nat.lt_of_le_of_lt (Nat.le_mul_of_pos_right n (Nat.two_pow_pos k)) h
  rw [pk_shl _ _ k hs, pk_tn hn, pk_tn h, Nat.mod_eq_of_lt h]
theorem pk_shr (a s : Int32) (k : Nat) (hs : (s.toBitVec.smod 32).toNat = k) : (a >>> s).toInt = a.toInt >>> k := by
  show (a.toBitVec.sshiftRight (s.toBitVec.smod 32).toNat).toInt = _
  rw [hs, BitVec.toInt_sshiftRight]
  rfl
theorem pk_shrN {n : Nat} (h : n < 2 ^ 31) (s : Int32) (k : Nat) (hs : (s.toBitVec.smod 32).toNat = k) : nI n >>> s = nI (n / 2 ^ k) := by
  apply Int32.toInt_inj.mp
  have h2 : n / 2 ^ k ≤ n := Nat.div_le_self _ _
  rw [pk_shr _ _ k hs, nI_toInt h, nI_toInt (by omega), Int.shiftRight_eq_div_pow]
  rfl
theorem pk_ushr (x s : Int32) (k : Nat) (hs : ((s.toUInt32 &&& Int32.toUInt32 31).toBitVec % 32).toNat = k) : (x.toUInt32 >>> (s.toUInt32 &&& Int32.toUInt32 31)).toInt32.toBitVec.toNat = x.toBitVec.toNat / 2 ^ k := by
  have e : (x.toUInt32 >>> (s.toUInt32 &&& Int32.toUInt32 31)).toInt32.toBitVec = x.toBitVec >>> k := by
    rw [← hs]
    exact UInt32.toBitVec_shiftRight _ _
  rw [e, BitVec.toNat_ushiftRight, Nat.shiftRight_eq_div_pow]
theorem pk_ushrN {n : Nat} (hn : n < 2 ^ 32) (s : Int32) (k : Nat) (hs : ((s.toUInt32 &&& Int32.toUInt32 31).toBitVec % 32).toNat = k) : ((nI n).toUInt32 >>> (s.toUInt32 &&& Int32.toUInt32 31)).toInt32 = nI (n / 2 ^ k) := by
  apply Int32.toBitVec_inj.mp
  apply BitVec.eq_of_toNat_eq
  rw [pk_ushr _ s k hs, pk_tn hn, pk_tn (Nat.lt_of_le_of_lt (Nat.div_le_self _ _) hn)]
theorem pk_lT {n : Nat} (h : n < 2 ^ 63) : (lN n).toInt = (n : Int) := lg_ofNat_toInt h
theorem pk_lLT {a b : Nat} (ha : a < 2 ^ 63) (hb : b < 2 ^ 63) : lN a < lN b ↔ a < b := by
  rw [Int64.lt_iff_toInt_lt, pk_lT ha, pk_lT hb]; omega
theorem pk_lLE {a b : Nat} (ha : a < 2 ^ 63) (hb : b < 2 ^ 63) : lN a ≤ lN b ↔ a ≤ b := by
  rw [Int64.le_iff_toInt_le, pk_lT ha, pk_lT hb]; omega
theorem pk_lEQ {a b : Nat} (ha : a < 2 ^ 63) (hb : b < 2 ^ 63) : lN a = lN b ↔ a = b := by
  rw [← Int64.toInt_inj, pk_lT ha, pk_lT hb]; omega
theorem pk_lOf {x : Int64} (h : ¬ x < 0) : ∃ k : Nat, k < 2 ^ 63 ∧ x = lN k := by
  rw [Int64.lt_iff_toInt_lt] at h
  have h0 : (0 : Int64).toInt = 0 := by decide
  have hx := Int64.toInt_lt x
  refine ⟨x.toInt.toNat, by omega, Int64.toInt_inj.mp ?_⟩
  rw [pk_lT (by omega)]
  omega
theorem pk_lDiv {a b : Nat} (ha : a < 2 ^ 63) (h0 : 0 < b) (hb : b < 2 ^ 63) : lN a / lN b = lN (a / b) := by
  apply Int64.toInt_inj.mp
  rw [lg_ldiv_nonneg (by rw [pk_lT ha]; omega) (by rw [pk_lT hb]; omega), pk_lT ha, pk_lT hb, pk_lT (Nat.lt_of_le_of_lt (Nat.div_le_self a b) ha)]
  rfl
theorem pk_lRem {a b : Nat} (ha : a < 2 ^ 63) (h0 : 0 < b) (hb : b < 2 ^ 63) : lN a - lN a / lN b * lN b = lN (a % b) := by
  rw [pk_lDiv ha h0 hb, lN_mul, lN_sub (Nat.div_mul_le_self a b)]
  exact congrArg lN (by have := Nat.div_add_mod' a b; omega)
theorem pk_loop {σ : Type} (W : Nat → Nat → σ → Prop) (I : Nat → σ → Prop) (e i0 : Nat) (s : σ) (hi : i0 ≤ e) (h0 : I i0 s) (hx : ∀ n s, I e s → W (n + 1) e s)
    (hs : ∀ n i s, i < e → I i s → (∀ s', I (i + 1) s' → W n (i + 1) s') → W (n + 1) i s) : ∃ n, W n i0 s :=
  ⟨e + 1, loop_i W I e hx hs (e + 1) i0 s hi (by omega) h0⟩
theorem pk_loopD {σ : Type} (W : Nat → Nat → σ → Prop) (I : Nat → σ → Prop) (hx : ∀ n s, I 0 s → W (n + 1) 0 s)
    (hs : ∀ n i s, I (i + 1) s → (∀ s', I i s' → W n i s') → W (n + 1) (i + 1) s) : ∀ (e : Nat) (s : σ), I e s → W (e + 1) e s := by
  intro e
  induction e with
  | zero => exact fun s h => hx 0 s h
  | succ e ih => exact fun s h => hs (e + 1) e s h (fun s' h' => ih s' h')
theorem nx_and (a b : Nat) : nI a &&& nI b = nI (a &&& b) := by
  apply Int32.toBitVec_inj.1
  show BitVec.ofNat 32 a &&& BitVec.ofNat 32 b = BitVec.ofNat 32 (a &&& b)
  apply BitVec.eq_of_getLsbD_eq
  intro i hi
  simp [hi]
theorem nx_xor (a b : Nat) : nI a ^^^ nI b = nI (a ^^^ b) := by
  apply Int32.toBitVec_inj.1
  show BitVec.ofNat 32 a ^^^ BitVec.ofNat 32 b = BitVec.ofNat 32 (a ^^^ b)
  apply BitVec.eq_of_getLsbD_eq
  intro i hi
  simp [hi]
theorem pk_least (P : Nat → Prop) (h : ∃ k, P k) : ∃ k, P k ∧ ∀ j, j < k → ¬ P j := by
  obtain ⟨k, hk⟩ := h
  induction k using Nat.strongRecOn with
  | ind k ih =>
    by_cases e : ∃ j, j < k ∧ P j
    · obtain ⟨j, hj, pj⟩ := e
      exact ih j hj pj
    · exact ⟨k, hk, fun j hj pj => e ⟨j, hj, pj⟩⟩
end
section
/-! the items: lists of entries (slot of X or -1, slot of Y, number of the giving) at places 0..2 and, held, at 3 + ring -/
abbrev bk_E : Type := Int32 × Nat × Nat
theorem bk_nm1 {k : Nat} (h : k < 2 ^ 31) : nI k ≠ -1 := by
  intro e
  have h1 := nI_toInt h
  rw [e] at h1
  have h2 : (-1 : Int32).toInt = -1 := by decide
  omega
theorem bk_m1lt : (-1 : Int32) < 0 := by decide
theorem bk_uu (f : Nat → Int32) (k : Nat) (x y : Int32) : upd (upd f k x) k y = upd f k y := by
  funext j; unfold upd; by_cases h : j = k <;> simp [h]
theorem bk_uid (f : Nat → Int32) (k : Nat) (x : Int32) (h : f k = x) : upd f k x = f := by
  funext j; unfold upd; by_cases e : j = k
  · subst e; simp [h]
  · simp [e]
theorem bk_ucomm (f : Nat → Int32) (k l : Nat) (x y : Int32) (h : k ≠ l) : upd (upd f k x) l y = upd (upd f l y) k x := by
  funext j; unfold upd; by_cases e : j = k
  · subst e; simp [h]
  · simp [e]
/-! scans -/
def bk_Best (P : Nat → Prop) (key : Nat → Int) (i : Nat) (b : Int32) : Prop :=
  (b = -1 ∧ ∀ j, j < i → ¬ P j) ∨ ∃ c, c < i ∧ b = nI c ∧ P c ∧ ∀ j, j < i → P j → key c ≤ key j
theorem bk_best0 {P : Nat → Prop} {key : Nat → Int} : bk_Best P key 0 (-1) := Or.inl ⟨rfl, fun j hj => absurd hj (Nat.not_lt_zero j)⟩
theorem bk_best_no {P : Nat → Prop} {key : Nat → Int} {i : Nat} {b : Int32} (h : bk_Best P key i b) (n : ¬ P i) : bk_Best P key (i + 1) b := by
  rcases h with ⟨hb, h⟩ | ⟨c, hc, hb, hp, h⟩
  · refine Or.inl ⟨hb, fun j hj pj => ?_⟩
    rcases Nat.lt_succ_iff_lt_or_eq.mp hj with hj | rfl
    · exact h j hj pj
    · exact n pj
  · refine Or.inr ⟨c, by omega, hb, hp, fun j hj pj => ?_⟩
    rcases Nat.lt_succ_iff_lt_or_eq.mp hj with hj | rfl
    · exact h j hj pj
    · exact absurd pj n
theorem bk_best_new {P : Nat → Prop} {key : Nat → Int} {i : Nat} {b : Int32} (hi : i < 2 ^ 31) (h : bk_Best P key i b) (p : P i) (hb : b < 0) : bk_Best P key (i + 1) (nI i) := by
  rcases h with ⟨_, h⟩ | ⟨c, hc, e, _, _⟩
  · refine Or.inr ⟨i, by omega, rfl, p, fun j hj pj => ?_⟩
    rcases Nat.lt_succ_iff_lt_or_eq.mp hj with hj | rfl
    · exact absurd pj (h j hj)
    · exact Int.le_refl _
  · rw [e] at hb
    exact absurd hb (nI_pos (by omega))
theorem bk_best_at {P : Nat → Prop} {key : Nat → Int} {i : Nat} {b : Int32} (h : bk_Best P key i b) (hb : ¬ b < 0) : ∃ c, c < i ∧ b = nI c := by
  rcases h with ⟨e, h⟩ | ⟨c, hc, e, _, _⟩
  · rw [e] at hb; exact absurd bk_m1lt hb
  · exact ⟨c, hc, e⟩
theorem bk_best_lt {P : Nat → Prop} {key : Nat → Int} {i : Nat} {c : Nat} (hi : i < 2 ^ 31) (hc : c < i) (h : bk_Best P key i (nI c)) (p : P i) (lt : key i < key c) : bk_Best P key (i + 1) (nI i) := by
  rcases h with ⟨e, _⟩ | ⟨d, hd, e, _, h⟩
  · exact absurd e (bk_nm1 (by omega))
  · have e : c = d := (nI_eq (by omega) (by omega)).mp e
    subst e
    refine Or.inr ⟨i, by omega, rfl, p, fun j hj pj => ?_⟩
    rcases Nat.lt_succ_iff_lt_or_eq.mp hj with hj | rfl
    · have := h j hj pj; omega
    · exact Int.le_refl _
theorem bk_best_ge {P : Nat → Prop} {key : Nat → Int} {i : Nat} {c : Nat} (hi : i < 2 ^ 31) (hc : c < i) (h : bk_Best P key i (nI c)) (ge : key c ≤ key i) : bk_Best P key (i + 1) (nI c) := by
  rcases h with ⟨e, _⟩ | ⟨d, hd, e, hp, h⟩
  · exact absurd e (bk_nm1 (by omega))
  · have e : c = d := (nI_eq (by omega) (by omega)).mp e
    subst e
    refine Or.inr ⟨c, by omega, rfl, hp, fun j hj pj => ?_⟩
    rcases Nat.lt_succ_iff_lt_or_eq.mp hj with hj | rfl
    · exact h j hj pj
    · exact ge
theorem bk_best_none {P : Nat → Prop} {key : Nat → Int} {i : Nat} {b : Int32} (h : bk_Best P key i b) (n : ∀ j, j < i → ¬ P j) : b = -1 := by
  rcases h with ⟨e, _⟩ | ⟨c, hc, _, hp, _⟩
  · exact e
  · exact absurd hp (n c hc)
theorem bk_best_uniq {P : Nat → Prop} {key : Nat → Int} {i : Nat} {b : Int32} {c : Nat} (h : bk_Best P key i b) (hc : c < i) (hp : P c) (hu : ∀ j, j < i → P j → j ≠ c → key c < key j) : b = nI c := by
  rcases h with ⟨_, h⟩ | ⟨d, hd, e, hq, h⟩
  · exact absurd hp (h c hc)
  · by_cases x : d = c
    · rw [e, x]
    · have h1 := hu d hd hq x
      have h2 := h c hc hp
      omega
/-! counts -/
def bk_cnt (wh : Nat → Int32) (a : Int32) : Nat → Nat
  | 0 => 0
  | n + 1 => bk_cnt wh a n + (if wh n = a then 1 else 0)
theorem bk_cnt_le (wh : Nat → Int32) (a : Int32) : ∀ n, bk_cnt wh a n ≤ n
  | 0 => Nat.le_refl 0
  | n + 1 => by have := bk_cnt_le wh a n; unfold bk_cnt; split <;> omega
theorem bk_cnt_eq (wh : Nat → Int32) (a : Int32) : ∀ (n : Nat) (l : List Nat), l.Nodup → (∀ y, y ∈ l ↔ y < n ∧ wh y = a) → bk_cnt wh a n = l.length
  | 0, l, _, h => by
    cases l with
    | nil => rfl
    | cons x l => exact absurd ((h x).mp List.mem_cons_self).1 (Nat.not_lt_zero x)
  | n + 1, l, nd, h => by
    unfold bk_cnt
    by_cases e : wh n = a
    · have hn : n ∈ l := (h n).mpr ⟨Nat.lt_succ_self n, e⟩
      have ih := bk_cnt_eq wh a n (l.erase n) (nd.erase n) (fun y => by
        rw [nd.mem_erase_iff, h y]
        constructor
        · rintro ⟨h1, h2, h3⟩; exact ⟨by omega, h3⟩
        · rintro ⟨h1, h3⟩; exact ⟨by omega, by omega, h3⟩)
      have hl := List.length_erase_of_mem hn
      have hp : 0 < l.length := List.length_pos_of_mem hn
      rw [ih, hl, if_pos e]
      omega
    · have ih := bk_cnt_eq wh a n l nd (fun y => by
        rw [h y]
        constructor
        · rintro ⟨h1, h3⟩
          refine ⟨?_, h3⟩
          rcases Nat.lt_succ_iff_lt_or_eq.mp h1 with h1 | rfl
          · exact h1
          · exact absurd h3 e
        · rintro ⟨h1, h3⟩; exact ⟨by omega, h3⟩)
      rw [ih, if_neg e]
      rfl
/-! the relation of the items -/
def bk_Ok (il it ib tr so bd : Nat → Int32) (p : bk_E) : Prop :=
  ∃ q n t : Nat, q < 104 ∧ p.1 = nI q ∧ 1 ≤ n ∧ n ≤ 16 ∧ t ≤ 2 ∧ il q = nI n ∧ so p.2.1 = nI n ∧ it q = nI t ∧ tr p.2.1 = nI t ∧ ∀ j, j < n → ib (q * 16 + j) = bd (16 * p.2.1 + j)
def bk_Qu (pl : Nat → Int32) (L : Nat) : Prop := L < 3 ∨ pl (L - 3) < 3
def bk_Ct (il it ib tr so bd pl : Nat → Int32) (L : Nat) (p : bk_E) : Prop :=
  (bk_Qu pl L ∧ bk_Ok il it ib tr so bd p) ∨ (¬ bk_Qu pl L ∧ p.1 = -1)
def bk_Con (A : Nat → List bk_E) (il it ib wh od tg tr so bd pl : Nat → Int32) (g : Nat → Nat) (fr en : Int) : Prop :=
  (∀ L p, L < 19 → p ∈ A L → p.2.1 < 112 ∧ wh p.2.1 = nI L ∧ bk_Ct il it ib tr so bd pl L p ∧ fr ≤ (od p.2.1).toInt ∧ (od p.2.1).toInt ≤ en) ∧
  (∀ L, L < 19 → (A L).Pairwise (fun p q => (od p.2.1).toInt < (od q.2.1).toInt)) ∧
  (∀ y, y < 112 → wh y = -1 ∨ ∃ L p, L < 19 ∧ p ∈ A L ∧ p.2.1 = y) ∧
  (∀ L M p q, L < 19 → M < 19 → p ∈ A L → q ∈ A M → p.1 = q.1 → p.1 ≠ -1 → p.2.1 = q.2.1) ∧
  (∀ q, q < 104 → il q = 0 ∨ ∃ L p, L < 19 ∧ p ∈ A L ∧ p.1 = nI q) ∧
  ((∀ L, L < 3 → (A L).length ≤ 8) ∧ (∀ r, r < 16 → (A (3 + r)).length ≤ 5)) ∧
  (∀ r p, r < 16 → p ∈ A (3 + r) → p.2.2 < g (r / 4) ∧ tg p.2.1 = nI (p.2.2 % 256)) ∧
  (∀ r r' p q, r < 16 → r' < 16 → r / 4 = r' / 4 → p ∈ A (3 + r) → q ∈ A (3 + r') → (p.2.2 < q.2.2 ↔ (od p.2.1).toInt < (od q.2.1).toInt) ∧ (p.2.2 = q.2.2 → p.2.1 = q.2.1))
theorem bk_pw_inj (f : bk_E → Int) : ∀ (l : List bk_E), l.Pairwise (fun p q => f p < f q) → ∀ p q, p ∈ l → q ∈ l → f p = f q → p = q
  | [], _, p, _, hp, _, _ => absurd hp List.not_mem_nil
  | a :: l, h, p, q, hp, hq, e => by
    rw [List.pairwise_cons] at h
    rcases List.mem_cons.mp hp with rfl | hp'
    · rcases List.mem_cons.mp hq with rfl | hq'
      · rfl
      · have := h.1 q hq'; omega
    · rcases List.mem_cons.mp hq with rfl | hq'
      · have := h.1 p hp'; omega
      · exact bk_pw_inj f l h.2 p q hp' hq' e
section CON
variable {A : Nat → List bk_E} {il it ib wh od tg tr so bd pl : Nat → Int32} {g : Nat → Nat} {fr en : Int}
theorem bk_inj (h : bk_Con A il it ib wh od tg tr so bd pl g fr en) {L M : Nat} {p q : bk_E} (hL : L < 19) (hM : M < 19) (hp : p ∈ A L) (hq : q ∈ A M) (e : p.2.1 = q.2.1) : L = M ∧ p = q := by
  have a := (h.1 L p hL hp).2.1
  have b := (h.1 M q hM hq).2.1
  rw [e, b] at a
  have lm : M = L := (nI_eq (by omega) (by omega)).mp a
  subst lm
  exact ⟨rfl, bk_pw_inj (fun p => (od p.2.1).toInt) _ (h.2.1 M hM) p q hp hq (by show (od p.2.1).toInt = (od q.2.1).toInt; rw [e])⟩
theorem bk_ynd (h : bk_Con A il it ib wh od tg tr so bd pl g fr en) {L : Nat} (hL : L < 19) : ((A L).map (fun p => p.2.1)).Nodup := by
  have h2 := h.2.1 L hL
  rw [List.nodup_iff_pairwise_ne, List.pairwise_map]
  refine h2.imp ?_
  intro a b hab e
  rw [e] at hab
  omega
/-- what `count` counts -/
theorem bk_count (h : bk_Con A il it ib wh od tg tr so bd pl g fr en) {L : Nat} (hL : L < 19) : bk_cnt wh (nI L) 112 = (A L).length := by
  rw [bk_cnt_eq wh (nI L) 112 ((A L).map (fun p => p.2.1)) (bk_ynd h hL), List.length_map]
  intro y
  rw [List.mem_map]
  constructor
  · rintro ⟨p, hp, rfl⟩
    exact ⟨(h.1 L p hL hp).1, (h.1 L p hL hp).2.1⟩
  · rintro ⟨hy, e⟩
    rcases h.2.2.1 y hy with w | ⟨M, p, hM, hp, rfl⟩
    · rw [w] at e; exact absurd e.symm (bk_nm1 (by omega))
    · have hw := (h.1 M p hM hp).2.1
      rw [e] at hw
      have lm : L = M := (nI_eq (by omega) (by omega)).mp hw
      subst lm
      exact ⟨p, hp, rfl⟩
theorem bk_at (h : bk_Con A il it ib wh od tg tr so bd pl g fr en) {L y : Nat} (hL : L < 19) (hy : y < 112) (e : wh y = nI L) : ∃ p, p ∈ A L ∧ p.2.1 = y := by
  rcases h.2.2.1 y hy with w | ⟨M, p, hM, hp, rfl⟩
  · rw [w] at e; exact absurd e.symm (bk_nm1 (by omega))
  · have hw := (h.1 M p hM hp).2.1
    rw [e] at hw
    have lm : L = M := (nI_eq (by omega) (by omega)).mp hw
    subst lm
    exact ⟨p, hp, rfl⟩
/-- the least order above T at L -/
theorem bk_after (h : bk_Con A il it ib wh od tg tr so bd pl g fr en) {L : Nat} (hL : L < 19) {T : Int32} {l1 l2 : List bk_E} (hA : A L = l1 ++ l2) (h1 : ∀ p, p ∈ l1 → (od p.2.1).toInt ≤ T.toInt) (h2 : ∀ p, p ∈ l2 → T.toInt < (od p.2.1).toInt) {b : Int32}
    (hb : bk_Best (fun j => wh j = nI L ∧ T < od j) (fun j => (od j).toInt) 112 b) : (l2 = [] ∧ b = -1) ∨ ∃ p l, l2 = p :: l ∧ b = nI p.2.1 := by
  cases l2 with
  | nil =>
    refine Or.inl ⟨rfl, bk_best_none hb ?_⟩
    rintro j hj ⟨e, t⟩
    obtain ⟨p, hp, rfl⟩ := bk_at h hL hj e
    rw [hA, List.append_nil] at hp
    have := h1 p hp
    rw [Int32.lt_iff_toInt_lt] at t
    omega
  | cons p l =>
    refine Or.inr ⟨p, l, rfl, ?_⟩
    have hp : p ∈ A L := by rw [hA]; exact List.mem_append_right l1 List.mem_cons_self
    have c := h.1 L p hL hp
    have pw := h.2.1 L hL
    rw [hA, List.pairwise_append, List.pairwise_cons] at pw
    refine bk_best_uniq hb c.1 ⟨c.2.1, Int32.lt_iff_toInt_lt.mpr (h2 p List.mem_cons_self)⟩ ?_
    rintro j hj ⟨e, t⟩ ne
    obtain ⟨q, hq, rfl⟩ := bk_at h hL hj e
    rw [hA] at hq
    rw [Int32.lt_iff_toInt_lt] at t
    rcases List.mem_append.mp hq with hq | hq
    · have := h1 q hq; omega
    · rcases List.mem_cons.mp hq with rfl | hq
      · exact absurd rfl ne
      · exact pw.2.1.1 q hq
/-- the greatest order at L below T -/
theorem bk_below (h : bk_Con A il it ib wh od tg tr so bd pl g fr en) {L : Nat} (hL : L < 19) (P : Nat → Prop) {l1 l2 : List bk_E} (hA : A L = l1 ++ l2) (hP : ∀ j, P j → wh j = nI L) (h1 : ∀ p, p ∈ l1 → P p.2.1) (h2 : ∀ p, p ∈ l2 → ¬ P p.2.1) {b : Int32}
    (hb : bk_Best P (fun j => - (od j).toInt) 112 b) : (l1 = [] ∧ b = -1) ∨ ∃ p l, l1 = l ++ [p] ∧ b = nI p.2.1 := by
  rcases List.eq_nil_or_concat l1 with rfl | ⟨l, p, rfl⟩
  · refine Or.inl ⟨rfl, bk_best_none hb ?_⟩
    intro j hj pj
    obtain ⟨q, hq, rfl⟩ := bk_at h hL hj (hP j pj)
    rw [hA, List.nil_append] at hq
    exact h2 q hq pj
  · rw [List.concat_eq_append] at *
    refine Or.inr ⟨p, l, rfl, ?_⟩
    have hpl : p ∈ l ++ [p] := List.mem_append_right l List.mem_cons_self
    have hp : p ∈ A L := by rw [hA]; exact List.mem_append_left l2 hpl
    have c := h.1 L p hL hp
    have pw := h.2.1 L hL
    rw [hA, List.pairwise_append, List.pairwise_append] at pw
    refine bk_best_uniq hb c.1 (h1 p hpl) ?_
    intro j hj pj ne
    obtain ⟨q, hq, rfl⟩ := bk_at h hL hj (hP j pj)
    rw [hA] at hq
    rcases List.mem_append.mp hq with hq | hq
    · rcases List.mem_append.mp hq with hq | hq
      · have := pw.1.2.2 q hq p List.mem_cons_self
        show - (od p.2.1).toInt < - (od q.2.1).toInt
        omega
      · rw [List.mem_singleton] at hq; subst hq; exact absurd rfl ne
    · exact absurd pj (h2 q hq)
/-! room -/
theorem bk_lenI (hq : ∀ L, L < 3 → (A L).length ≤ 8) (hr : ∀ r, r < 16 → (A (3 + r)).length ≤ 5) (t : Nat) (ht : t < 3 → (A t).length < 8) : ∀ n, n ≤ 19 → ((List.range n).flatMap A).length + (if t < 3 ∧ t < n then 1 else 0) ≤ 8 * min n 3 + 5 * (n - 3)
  | 0, _ => by rw [if_neg (by omega)]; exact Nat.le_refl 0
  | n + 1, hn => by
    have ih := bk_lenI hq hr t ht n (by omega)
    rw [List.range_succ, List.flatMap_append, List.length_append, List.flatMap_singleton]
    by_cases n3 : n < 3
    · have a := hq n n3
      by_cases e : t = n
      · subst e
        have := ht n3
        rw [if_neg (by omega)] at ih
        rw [if_pos (by omega)]
        omega
      · by_cases z : t < 3 ∧ t < n
        · rw [if_pos z] at ih
          rw [if_pos (by omega)]
          omega
        · rw [if_neg z] at ih
          rw [if_neg (by omega)]
          omega
    · have a := hr (n - 3) (by omega)
      rw [show 3 + (n - 3) = n by omega] at a
      by_cases z : t < 3 ∧ t < n
      · rw [if_pos z] at ih
        rw [if_pos (by omega)]
        omega
      · rw [if_neg z] at ih
        rw [if_neg (by omega)]
        omega
theorem bk_len (h : bk_Con A il it ib wh od tg tr so bd pl g fr en) : ((List.range 19).flatMap A).length ≤ 104 ∧ ∀ t, t < 3 → (A t).length < 8 → ((List.range 19).flatMap A).length ≤ 103 := by
  obtain ⟨hq, hr⟩ := h.2.2.2.2.2.1
  refine ⟨?_, fun t ht hl => ?_⟩
  · have := bk_lenI hq hr 3 (fun z => absurd z (by omega)) 19 (by omega)
    rw [if_neg (by omega)] at this
    omega
  · have := bk_lenI hq hr t (fun _ => hl) 19 (by omega)
    rw [if_pos (by omega)] at this
    omega
theorem bk_freeY (h : bk_Con A il it ib wh od tg tr so bd pl g fr en) : ∃ y, y < 112 ∧ wh y = -1 := by
  apply Classical.byContradiction
  intro n
  have sub : List.range 112 ⊆ ((List.range 19).flatMap A).map (fun p => p.2.1) := by
    intro y hy
    have hy := List.mem_range.mp hy
    rcases h.2.2.1 y hy with w | ⟨M, p, hM, hp, rfl⟩
    · exact absurd ⟨y, hy, w⟩ n
    · exact List.mem_map.mpr ⟨p, List.mem_flatMap.mpr ⟨M, List.mem_range.mpr hM, hp⟩, rfl⟩
  have l := List.Nodup.length_le_of_subset List.nodup_range sub
  rw [List.length_range, List.length_map] at l
  have := (bk_len h).1
  omega
theorem bk_freeX (h : bk_Con A il it ib wh od tg tr so bd pl g fr en) {t : Nat} (ht : t < 3) (hl : (A t).length < 8) : ∃ q, q < 104 ∧ il q = 0 := by
  apply Classical.byContradiction
  intro n
  have sub : (List.range 104).map nI ⊆ ((List.range 19).flatMap A).map (fun p => p.1) := by
    intro y hy
    obtain ⟨q, hq, rfl⟩ := List.mem_map.mp hy
    have hq := List.mem_range.mp hq
    rcases h.2.2.2.2.1 q hq with w | ⟨M, p, hM, hp, e⟩
    · exact absurd ⟨q, hq, w⟩ n
    · exact List.mem_map.mpr ⟨p, List.mem_flatMap.mpr ⟨M, List.mem_range.mpr hM, hp⟩, e⟩
  have nd : ((List.range 104).map nI).Nodup := by
    rw [List.nodup_iff_pairwise_ne, List.pairwise_map]
    refine List.Pairwise.imp_of_mem ?_ (List.nodup_iff_pairwise_ne.mp (List.nodup_range (n := 104)))
    intro a b ha hb ne e
    have ha := List.mem_range.mp ha
    have hb := List.mem_range.mp hb
    exact ne ((nI_eq (by omega) (by omega)).mp e)
  have l := List.Nodup.length_le_of_subset nd sub
  rw [List.length_map, List.length_range, List.length_map] at l
  have := (bk_len h).2 t ht hl
  omega
/-! changes of the items -/
def bk_fre (il : Nat → Int32) (x : Int32) : Nat → Int32 := if x = -1 then il else upd il x.toNatClampNeg 0
def bk_set (A : Nat → List bk_E) (L : Nat) (l : List bk_E) : Nat → List bk_E := fun M => if M = L then l else A M
theorem bk_set_s {L : Nat} {l : List bk_E} : bk_set A L l L = l := if_pos rfl
theorem bk_set_n {L M : Nat} {l : List bk_E} (h : M ≠ L) : bk_set A L l M = A M := if_neg h
theorem bk_x (h : bk_Con A il it ib wh od tg tr so bd pl g fr en) {L : Nat} {p : bk_E} (hL : L < 19) (hp : p ∈ A L) : (p.1 = -1 ∧ ¬ bk_Qu pl L) ∨ ∃ q, q < 104 ∧ p.1 = nI q ∧ bk_Qu pl L := by
  rcases (h.1 L p hL hp).2.2.1 with ⟨a, q, n, t, hq, e, _⟩ | ⟨a, e⟩
  · exact Or.inr ⟨q, hq, e, a⟩
  · exact Or.inl ⟨e, a⟩
theorem bk_rm (h : bk_Con A il it ib wh od tg tr so bd pl g fr en) {L : Nat} {p : bk_E} {l1 l2 : List bk_E} (hL : L < 19) (hA : A L = l1 ++ p :: l2) :
    bk_Con (bk_set A L (l1 ++ l2)) (bk_fre il p.1) it ib (upd wh p.2.1 (-1)) od tg tr so bd pl g fr en := by
  have hp : p ∈ A L := by rw [hA]; exact List.mem_append_right l1 List.mem_cons_self
  have sub : ∀ M q, M < 19 → q ∈ bk_set A L (l1 ++ l2) M → q ∈ A M ∧ q.2.1 ≠ p.2.1 := by
    intro M q hM hq
    by_cases e : M = L
    · subst e
      rw [bk_set_s] at hq
      have hq' : q ∈ A M := by
        rw [hA]
        rcases List.mem_append.mp hq with x | x
        · exact List.mem_append_left _ x
        · exact List.mem_append_right _ (List.mem_cons_of_mem p x)
      refine ⟨hq', fun e => ?_⟩
      have pw := h.2.1 M hM
      rw [hA, List.pairwise_append, List.pairwise_cons] at pw
      rcases List.mem_append.mp hq with x | x
      · have := pw.2.2 q x p List.mem_cons_self
        rw [e] at this; omega
      · have := pw.2.1.1 q x
        rw [e] at this; omega
    · rw [bk_set_n e] at hq
      exact ⟨hq, fun x => e (bk_inj h hM hL hq hp x).1⟩
  have sup : ∀ M q, M < 19 → q ∈ A M → q.2.1 ≠ p.2.1 → q ∈ bk_set A L (l1 ++ l2) M := by
    intro M q hM hq ne
    by_cases e : M = L
    · subst e
      rw [bk_set_s]
      rw [hA] at hq
      rcases List.mem_append.mp hq with x | x
      · exact List.mem_append_left _ x
      · rcases List.mem_cons.mp x with rfl | x
        · exact absurd rfl ne
        · exact List.mem_append_right _ x
    · rw [bk_set_n e]; exact hq
  have ilk : ∀ q, q < 104 → p.1 ≠ nI q → bk_fre il p.1 q = il q := by
    intro q hq ne
    unfold bk_fre
    rcases bk_x h hL hp with ⟨x, _⟩ | ⟨q0, h0, x, _⟩
    · rw [if_pos x]
    · rw [if_neg (by rw [x]; exact bk_nm1 (by omega)), x, nI_clamp (by omega)]
      refine pk_un (fun e => ne ?_)
      rw [x, e]
  refine ⟨?_, ?_, ?_, ?_, ?_, ⟨?_, ?_⟩, ?_, ?_⟩
  · intro M q hM hq
    obtain ⟨hq', ne⟩ := sub M q hM hq
    obtain ⟨a, b, c, d, e⟩ := h.1 M q hM hq'
    refine ⟨a, by rw [pk_un ne]; exact b, ?_, d, e⟩
    rcases c with ⟨c0, qq, n, t, c1, c2, c3, c4, c5, c6, c7⟩ | c
    · refine Or.inl ⟨c0, qq, n, t, c1, c2, c3, c4, c5, ?_, c7⟩
      rw [ilk qq c1 ?_]
      · exact c6
      · intro e
        have z : p.1 = q.1 := by rw [e, c2]
        exact ne (h.2.2.2.1 L M p q hL hM hp hq' z (by rw [e]; exact bk_nm1 (by omega))).symm
    · exact Or.inr c
  · intro M hM
    by_cases e : M = L
    · subst e
      rw [bk_set_s]
      have pw := h.2.1 M hM
      rw [hA] at pw
      exact pw.sublist (List.Sublist.append (List.Sublist.refl l1) (List.sublist_cons_self p l2))
    · rw [bk_set_n e]; exact h.2.1 M hM
  · intro y hy
    by_cases e : y = p.2.1
    · left; rw [e]; exact pk_us
    · rcases h.2.2.1 y hy with w | ⟨M, q, hM, hq, e'⟩
      · left; rw [pk_un e]; exact w
      · right; exact ⟨M, q, hM, sup M q hM hq (by rw [e']; exact e), e'⟩
  · intro M N q q' hM hN hq hq' e ne
    exact h.2.2.2.1 M N q q' hM hN (sub M q hM hq).1 (sub N q' hN hq').1 e ne
  · intro q hq
    by_cases e : p.1 = nI q
    · left
      unfold bk_fre
      rw [if_neg (by rw [e]; exact bk_nm1 (by omega)), e, nI_clamp (by omega)]
      exact pk_us
    · rcases h.2.2.2.2.1 q hq with w | ⟨M, q', hM, hq', e'⟩
      · left; rw [ilk q hq e]; exact w
      · right
        refine ⟨M, q', hM, sup M q' hM hq' ?_, e'⟩
        intro x
        have := (bk_inj h hM hL hq' hp x).2
        rw [this] at e'
        exact e e'
  · intro M hM
    have l := h.2.2.2.2.2.1.1 M hM
    by_cases e : M = L
    · subst e
      rw [bk_set_s]
      rw [hA] at l
      simp only [List.length_append, List.length_cons] at l ⊢
      omega
    · rw [bk_set_n e]; exact l
  · intro r hr
    have l := h.2.2.2.2.2.1.2 r hr
    by_cases e : 3 + r = L
    · subst e
      rw [bk_set_s]
      rw [hA] at l
      simp only [List.length_append, List.length_cons] at l ⊢
      omega
    · rw [bk_set_n e]; exact l
  · intro r q hr hq
    exact h.2.2.2.2.2.2.1 r q hr (sub _ q (by omega) hq).1
  · intro r r' q q' hr hr' e hq hq'
    exact h.2.2.2.2.2.2.2 r r' q q' hr hr' e (sub _ q (by omega) hq).1 (sub _ q' (by omega) hq').1
theorem bk_frame (h : bk_Con A il it ib wh od tg tr so bd pl g fr en) {it' ib' od' tg' tr' so' bd' : Nat → Int32} {g' : Nat → Nat} {fr' en' : Int}
    (hX : ∀ q, q < 104 → il q ≠ 0 → it' q = it q ∧ ∀ j, j < 16 → ib' (q * 16 + j) = ib (q * 16 + j))
    (hY : ∀ y, y < 112 → wh y ≠ -1 → od' y = od y ∧ tg' y = tg y ∧ tr' y = tr y ∧ so' y = so y ∧ ∀ j, j < 16 → bd' (16 * y + j) = bd (16 * y + j))
    (hg : ∀ s, g s ≤ g' s) (hf : fr' ≤ fr) (he : en ≤ en') : bk_Con A il it' ib' wh od' tg' tr' so' bd' pl g' fr' en' := by
  have us : ∀ L p, L < 19 → p ∈ A L → od' p.2.1 = od p.2.1 ∧ tg' p.2.1 = tg p.2.1 ∧ tr' p.2.1 = tr p.2.1 ∧ so' p.2.1 = so p.2.1 ∧ ∀ j, j < 16 → bd' (16 * p.2.1 + j) = bd (16 * p.2.1 + j) := by
    intro L p hL hp
    have c := h.1 L p hL hp
    exact hY _ c.1 (by rw [c.2.1]; exact bk_nm1 (by omega))
  refine ⟨?_, ?_, h.2.2.1, h.2.2.2.1, h.2.2.2.2.1, h.2.2.2.2.2.1, ?_, ?_⟩
  · intro L p hL hp
    obtain ⟨a, b, c, d, e⟩ := h.1 L p hL hp
    obtain ⟨u1, u2, u3, u4, u5⟩ := us L p hL hp
    refine ⟨a, b, ?_, by rw [u1]; omega, by rw [u1]; omega⟩
    rcases c with ⟨c0, q, n, t, c1, c2, c3, c4, c5, c6, c7, c8, c9, c10⟩ | c
    · obtain ⟨x1, x2⟩ := hX q c1 (by rw [c6]; exact nI_ne0 (by omega) (by omega))
      refine Or.inl ⟨c0, q, n, t, c1, c2, c3, c4, c5, c6, by rw [u4]; exact c7, by rw [x1]; exact c8, by rw [u3]; exact c9, ?_⟩
      intro j hj
      rw [x2 j (by omega), u5 j (by omega)]
      exact c10 j hj
    · exact Or.inr c
  · intro L hL
    refine List.Pairwise.imp_of_mem ?_ (h.2.1 L hL)
    intro a b ha hb r
    rw [(us L a hL ha).1, (us L b hL hb).1]
    exact r
  · intro r p hr hp
    have c := h.2.2.2.2.2.2.1 r p hr hp
    rw [(us _ p (by omega) hp).2.1]
    exact ⟨Nat.lt_of_lt_of_le c.1 (hg _), c.2⟩
  · intro r r' p q hr hr' e hp hq
    rw [(us _ p (by omega) hp).1, (us _ q (by omega) hq).1]
    exact h.2.2.2.2.2.2.2 r r' p q hr hr' e hp hq
theorem bk_ins (h : bk_Con A il it ib wh od tg tr so bd pl g fr en) {L : Nat} {p : bk_E} {l' : List bk_E} {il' : Nat → Int32} {g' : Nat → Nat} (hL : L < 19)
    (mem : ∀ q, q ∈ l' ↔ q = p ∨ q ∈ A L) (pw : l'.Pairwise (fun p q => (od p.2.1).toInt < (od q.2.1).toInt))
    (len : (L < 3 → l'.length ≤ 8) ∧ (3 ≤ L → l'.length ≤ 5)) (hy : p.2.1 < 112) (hw : wh p.2.1 = -1)
    (ct : (bk_Qu pl L ∧ ∃ q n t : Nat, q < 104 ∧ p.1 = nI q ∧ il q = 0 ∧ il' = upd il q (nI n) ∧ 1 ≤ n ∧ n ≤ 16 ∧ t ≤ 2 ∧ so p.2.1 = nI n ∧ it q = nI t ∧ tr p.2.1 = nI t ∧ ∀ j, j < n → ib (q * 16 + j) = bd (16 * p.2.1 + j)) ∨ (¬ bk_Qu pl L ∧ p.1 = -1 ∧ il' = il))
    (ob : fr ≤ (od p.2.1).toInt ∧ (od p.2.1).toInt ≤ en) (hg : ∀ s, g s ≤ g' s)
    (h7 : ∀ r, L = 3 + r → p.2.2 < g' (r / 4) ∧ tg p.2.1 = nI (p.2.2 % 256))
    (h8 : ∀ r r' q, L = 3 + r → r' < 16 → r / 4 = r' / 4 → q ∈ A (3 + r') → (q.2.2 < p.2.2 ↔ (od q.2.1).toInt < (od p.2.1).toInt) ∧ (p.2.2 < q.2.2 ↔ (od p.2.1).toInt < (od q.2.1).toInt) ∧ q.2.2 ≠ p.2.2) :
    bk_Con (bk_set A L l') il' it ib (upd wh p.2.1 (nI L)) od tg tr so bd pl g' fr en := by
  have sub : ∀ M q, M < 19 → q ∈ bk_set A L l' M → (M = L ∧ q = p) ∨ (q ∈ A M ∧ q.2.1 ≠ p.2.1) := by
    intro M q hM hq
    have old : q ∈ A M → q.2.1 ≠ p.2.1 := by
      intro x e
      have c := (h.1 M q hM x).2.1
      rw [e, hw] at c
      exact bk_nm1 (by omega) c.symm
    by_cases e : M = L
    · subst e
      rw [bk_set_s] at hq
      rcases (mem q).mp hq with x | x
      · exact Or.inl ⟨rfl, x⟩
      · exact Or.inr ⟨x, old x⟩
    · rw [bk_set_n e] at hq
      exact Or.inr ⟨hq, old hq⟩
  have sup : ∀ M q, q ∈ A M → q ∈ bk_set A L l' M := by
    intro M q hq
    by_cases e : M = L
    · subst e; rw [bk_set_s]; exact (mem q).mpr (Or.inr hq)
    · rw [bk_set_n e]; exact hq
  have psup : p ∈ bk_set A L l' L := by rw [bk_set_s]; exact (mem p).mpr (Or.inl rfl)
  have xne : ∀ M q, M < 19 → q ∈ A M → q.1 = p.1 → p.1 = -1 := by
    intro M q hM hq e
    rcases ct with ⟨_, q0, n, t, c1, c2, c3, _⟩ | ⟨_, c, _⟩
    · rcases (h.1 M q hM hq).2.2.1 with ⟨d0, q1, n1, t1, d1, d2, d3, d4, d5, d6, _⟩ | ⟨_, d⟩
      · rw [d2, c2] at e
        have e : q1 = q0 := (nI_eq (by omega) (by omega)).mp e
        subst e
        rw [c3] at d6
        exact absurd d6.symm (nI_ne0 (by omega) (by omega))
      · rw [← e]; exact d
    · exact c
  have ilk : ∀ q, q < 104 → nI q ≠ p.1 → il' q = il q := by
    intro q hq ne
    rcases ct with ⟨_, q0, n, t, c1, c2, c3, c4, _⟩ | ⟨_, c, c4⟩
    · rw [c4]
      refine pk_un (fun e => ne ?_)
      rw [c2, e]
    · rw [c4]
  refine ⟨?_, ?_, ?_, ?_, ?_, ⟨?_, ?_⟩, ?_, ?_⟩
  · intro M q hM hq
    rcases sub M q hM hq with ⟨e1, e2⟩ | ⟨hq', ne⟩
    · subst e1; subst e2
      refine ⟨hy, pk_us, ?_, ob.1, ob.2⟩
      rcases ct with ⟨c0, q0, n, t, c1, c2, c3, c4, c5, c6, c7, c8, c9, c10, c11⟩ | ⟨c0, c1, c2⟩
      · exact Or.inl ⟨c0, q0, n, t, c1, c2, c5, c6, c7, by rw [c4]; exact pk_us, c8, c9, c10, c11⟩
      · exact Or.inr ⟨c0, c1⟩
    · obtain ⟨a, b, c, d, e⟩ := h.1 M q hM hq'
      refine ⟨a, by rw [pk_un ne]; exact b, ?_, d, e⟩
      rcases c with ⟨c0, qq, n, t, c1, c2, c3, c4, c5, c6, c7⟩ | c
      · refine Or.inl ⟨c0, qq, n, t, c1, c2, c3, c4, c5, ?_, c7⟩
        rw [ilk qq c1 ?_]
        · exact c6
        · intro e
          have z := xne M q hM hq' (by rw [c2, e])
          rw [z] at e
          exact bk_nm1 (by omega) e
      · exact Or.inr c
  · intro M hM
    by_cases e : M = L
    · subst e; rw [bk_set_s]; exact pw
    · rw [bk_set_n e]; exact h.2.1 M hM
  · intro y hy'
    by_cases e : y = p.2.1
    · right; exact ⟨L, p, hL, psup, e.symm⟩
    · rcases h.2.2.1 y hy' with w | ⟨M, q, hM, hq, e'⟩
      · left; rw [pk_un e]; exact w
      · right; exact ⟨M, q, hM, sup M q hq, e'⟩
  · intro M N q q' hM hN hq hq' e ne
    rcases sub M q hM hq with ⟨_, x⟩ | ⟨x, _⟩
    · rcases sub N q' hN hq' with ⟨_, z⟩ | ⟨z, _⟩
      · rw [x, z]
      · rw [x] at e ne
        exact absurd (xne N q' hN z e.symm) ne
    · rcases sub N q' hN hq' with ⟨_, z⟩ | ⟨z, _⟩
      · rw [z] at e
        have := xne M q hM x e
        rw [e] at ne
        exact absurd this ne
      · exact h.2.2.2.1 M N q q' hM hN x z e ne
  · intro q hq
    by_cases e : nI q = p.1
    · right; exact ⟨L, p, hL, psup, e.symm⟩
    · rcases h.2.2.2.2.1 q hq with w | ⟨M, q', hM, hq', e'⟩
      · left; rw [ilk q hq e]; exact w
      · right; exact ⟨M, q', hM, sup M q' hq', e'⟩
  · intro M hM
    by_cases e : M = L
    · subst e; rw [bk_set_s]; exact len.1 hM
    · rw [bk_set_n e]; exact h.2.2.2.2.2.1.1 M hM
  · intro r hr
    by_cases e : 3 + r = L
    · subst e; rw [bk_set_s]; exact len.2 (by omega)
    · rw [bk_set_n e]; exact h.2.2.2.2.2.1.2 r hr
  · intro r q hr hq
    rcases sub (3 + r) q (by omega) hq with ⟨e1, e2⟩ | ⟨hq', ne⟩
    · subst e2; exact h7 r e1.symm
    · have c := h.2.2.2.2.2.2.1 r q hr hq'
      exact ⟨Nat.lt_of_lt_of_le c.1 (hg _), c.2⟩
  · intro r r' q q' hr hr' e hq hq'
    rcases sub (3 + r) q (by omega) hq with ⟨e1, e2⟩ | ⟨x, _⟩
    · rcases sub (3 + r') q' (by omega) hq' with ⟨f1, f2⟩ | ⟨z, _⟩
      · rw [e2, f2]
        refine ⟨⟨fun a => ?_, fun a => ?_⟩, fun _ => rfl⟩
        · omega
        · omega
      · rw [e2]
        have w := h8 r r' q' e1.symm hr' e z
        exact ⟨w.2.1, fun x => absurd x.symm w.2.2⟩
    · rcases sub (3 + r') q' (by omega) hq' with ⟨f1, f2⟩ | ⟨z, _⟩
      · rw [f2]
        have w := h8 r' r q f1.symm hr e.symm x
        exact ⟨w.1, fun x => absurd x w.2.2⟩
      · exact h.2.2.2.2.2.2.2 r r' q q' hr hr' e x z
theorem bk_pl (h : bk_Con A il it ib wh od tg tr so bd pl g fr en) {r : Nat} (hr : A (3 + r) = []) (x : Int32) : bk_Con A il it ib wh od tg tr so bd (upd pl r x) g fr en := by
  refine ⟨?_, h.2⟩
  intro L p hL hp
  obtain ⟨a, b, c, d, e⟩ := h.1 L p hL hp
  refine ⟨a, b, ?_, d, e⟩
  have k : bk_Qu (upd pl r x) L ↔ bk_Qu pl L := by
    unfold bk_Qu
    by_cases q : L < 3
    · simp [q]
    · have ne : L - 3 ≠ r := by
        intro e
        have : L = 3 + r := by omega
        rw [this, hr] at hp
        exact absurd hp List.not_mem_nil
      rw [pk_un ne]
  rcases c with ⟨c0, c⟩ | ⟨c0, c⟩
  · exact Or.inl ⟨k.mpr c0, c⟩
  · exact Or.inr ⟨fun z => c0 (k.mp z), c⟩
end CON
end
section
/-! the past -/
def bk_past (pb pa : Nat → Int32) (s k m : Nat) : Nat → Int32 := fun j =>
  if 64 * s ≤ j ∧ j < 64 * s + min 64 (k + m) then
    (if (k + m - 64) + (j - 64 * s) < k then pb (j + (k + m - 64)) else pa ((k + m - 64) + (j - 64 * s) - k))
  else pb j
theorem bk_past0 (pb pa : Nat → Int32) (s k : Nat) (hk : k ≤ 64) : bk_past pb pa s k 0 = pb := by
  funext j
  unfold bk_past
  split
  · rename_i h
    rw [if_pos (by omega)]
    exact congrArg pb (by omega)
  · rfl
/-- a byte more, while there is room -/
theorem bk_past_lo (pb pa : Nat → Int32) (s k m : Nat) (h : k + m < 64) : upd (bk_past pb pa s k m) (64 * s + (k + m)) (pa m) = bk_past pb pa s k (m + 1) := by
  funext j
  unfold upd bk_past
  by_cases e : j = 64 * s + (k + m)
  · rw [if_pos e, if_pos (by omega), if_neg (by omega)]
    exact congrArg pa (by omega)
  · rw [if_neg e]
    by_cases a : 64 * s ≤ j ∧ j < 64 * s + min 64 (k + m)
    · rw [if_pos a, if_pos (show 64 * s ≤ j ∧ j < 64 * s + min 64 (k + (m + 1)) by omega)]
      by_cases b : (k + m - 64) + (j - 64 * s) < k
      · rw [if_pos b, if_pos (by omega)]
        exact congrArg pb (by omega)
      · rw [if_neg b, if_neg (by omega)]
        exact congrArg pa (by omega)
    · rw [if_neg a, if_neg (by omega)]
/-- a byte more, when it is full -/
theorem bk_past_hi (pb pa : Nat → Int32) (s k m : Nat) (hk : k ≤ 64) (h : 64 ≤ k + m) (f : Nat → Int32) (hf : ∀ j, f j = if 64 * s ≤ j ∧ j < 64 * s + 63 then bk_past pb pa s k m (j + 1) else bk_past pb pa s k m j) :
    upd f (64 * s + 63) (pa m) = bk_past pb pa s k (m + 1) := by
  funext j
  unfold upd
  by_cases e : j = 64 * s + 63
  · rw [if_pos e]
    unfold bk_past
    rw [if_pos (by omega), if_neg (by omega)]
    exact congrArg pa (by omega)
  · rw [if_neg e, hf j]
    by_cases a : 64 * s ≤ j ∧ j < 64 * s + 63
    · rw [if_pos a]
      unfold bk_past
      rw [if_pos (show 64 * s ≤ j + 1 ∧ j + 1 < 64 * s + min 64 (k + m) by omega), if_pos (show 64 * s ≤ j ∧ j < 64 * s + min 64 (k + (m + 1)) by omega)]
      by_cases b : (k + m - 64) + (j + 1 - 64 * s) < k
      · rw [if_pos b, if_pos (by omega)]
        exact congrArg pb (by omega)
      · rw [if_neg b, if_neg (by omega)]
        exact congrArg pa (by omega)
    · rw [if_neg a]
      unfold bk_past
      rw [if_neg (by omega), if_neg (by omega)]
/-- bytes -/
def bk_By (f : Nat → Int32) : Prop := ∀ j, ∃ v : Nat, v < 256 ∧ f j = nI v
theorem bk_By0 : bk_By (fun _ => 0) := fun _ => ⟨0, by omega, rfl⟩
theorem bk_Byu {f : Nat → Int32} (h : bk_By f) {k v : Nat} (hv : v < 256) : bk_By (upd f k (nI v)) := by
  intro j
  unfold upd
  by_cases e : j = k
  · rw [if_pos e]; exact ⟨v, hv, rfl⟩
  · rw [if_neg e]; exact h j
theorem bk_Byx {f : Nat → Int32} (h : bk_By f) {k : Nat} {x : Int32} (hx : ∃ v : Nat, v < 256 ∧ x = nI v) : bk_By (upd f k x) := by
  obtain ⟨v, hv, rfl⟩ := hx
  exact bk_Byu h hv
theorem bk_By_past {pb pa : Nat → Int32} {s k m : Nat} (h : bk_By pb) (h2 : ∀ j, j < m → ∃ v : Nat, v < 256 ∧ pa j = nI v) (hk : k ≤ 64) : bk_By (bk_past pb pa s k m) := by
  intro j
  unfold bk_past
  split
  · split
    · exact h _
    · exact h2 _ (by omega)
  · exact h j
/-! the least cost -/
/-- q is reached from p by a copy from f (all counted from where the past begins; e the end) -/
def bk_M (w : Nat → Int32) (e p f q : Nat) : Prop := p + 2 ≤ q ∧ q ≤ p + 33 ∧ q ≤ e ∧ ∀ i, i < q - p → w (f + i) = w (p + i)
def bk_Cp (w : Nat → Int32) (e p : Nat) (S : Nat → Prop) (c0 c : Nat → Nat) : Prop :=
  ∀ q, ((∃ f, S f ∧ bk_M w e p f q) → c q = min (c0 q) (c0 p + 2)) ∧ ((¬ ∃ f, S f ∧ bk_M w e p f q) → c q = c0 q)
theorem bk_Cp_uniq {w : Nat → Int32} {e p : Nat} {S T : Nat → Prop} {c0 c c' : Nat → Nat} (h : bk_Cp w e p S c0 c) (h' : bk_Cp w e p T c0 c') (st : ∀ f, S f ↔ T f) : c = c' := by
  funext q
  by_cases x : ∃ f, S f ∧ bk_M w e p f q
  · obtain ⟨f, sf, m⟩ := x
    rw [(h q).1 ⟨f, sf, m⟩, (h' q).1 ⟨f, (st f).mp sf, m⟩]
  · rw [(h q).2 x, (h' q).2 (fun ⟨f, tf, m⟩ => x ⟨f, (st f).mpr tf, m⟩)]
theorem bk_Cp_0 {w : Nat → Int32} {e p : Nat} {c0 : Nat → Nat} {S : Nat → Prop} (hS : ∀ f, ¬ S f) : bk_Cp w e p S c0 c0 :=
  fun _ => ⟨fun ⟨f, a, _⟩ => absurd a (hS f), fun _ => rfl⟩
/-- the copies from f with q up to z are in: c is between -/
def bk_Cq (w : Nat → Int32) (e p : Nat) (S : Nat → Prop) (f z : Nat) (c0 c : Nat → Nat) : Prop :=
  ∀ q, (((∃ f', S f' ∧ bk_M w e p f' q) ∨ (bk_M w e p f q ∧ q ≤ z)) → c q = min (c0 q) (c0 p + 2)) ∧ ((¬ ((∃ f', S f' ∧ bk_M w e p f' q) ∨ (bk_M w e p f q ∧ q ≤ z))) → c q = c0 q)
theorem bk_Cq_in {w : Nat → Int32} {e p f : Nat} {S : Nat → Prop} {c0 c : Nat → Nat} (h : bk_Cp w e p S c0 c) {z : Nat} (hz : z ≤ p + 1) : bk_Cq w e p S f z c0 c := by
  intro q
  refine ⟨?_, ?_⟩
  · rintro (x | ⟨x, y⟩)
    · exact (h q).1 x
    · have := x.1; omega
  · intro n
    exact (h q).2 (fun x => n (Or.inl x))
theorem bk_Cq_out {w : Nat → Int32} {e p f : Nat} {S T : Nat → Prop} {c0 c : Nat → Nat} {z : Nat} (h : bk_Cq w e p S f z c0 c) (hz : ∀ q, bk_M w e p f q → q ≤ z) (hT : ∀ f', T f' ↔ (S f' ∨ f' = f)) : bk_Cp w e p T c0 c := by
  intro q
  refine ⟨?_, ?_⟩
  · rintro ⟨f', t, m⟩
    rcases (hT f').mp t with s | rfl
    · exact (h q).1 (Or.inl ⟨f', s, m⟩)
    · exact (h q).1 (Or.inr ⟨m, hz q m⟩)
  · intro n
    refine (h q).2 ?_
    rintro (⟨f', s, m⟩ | ⟨m, _⟩)
    · exact n ⟨f', (hT f').mpr (Or.inl s), m⟩
    · exact n ⟨f, (hT f).mpr (Or.inr rfl), m⟩
/-- one step: q = z + 1 is reached; c' lowers it -/
theorem bk_Cq_step {w : Nat → Int32} {e p f z : Nat} {S : Nat → Prop} {c0 c c' : Nat → Nat} (h : bk_Cq w e p S f z c0 c) (m : bk_M w e p f (z + 1)) (hc : c' (z + 1) = min (c (z + 1)) (c0 p + 2)) (hn : ∀ q, q ≠ z + 1 → c' q = c q) : bk_Cq w e p S f (z + 1) c0 c' := by
  intro q
  by_cases x : q = z + 1
  · subst x
    refine ⟨fun _ => ?_, fun n => absurd (Or.inr ⟨m, Nat.le_refl _⟩) n⟩
    rw [hc]
    by_cases y : (∃ f', S f' ∧ bk_M w e p f' (z + 1)) ∨ (bk_M w e p f (z + 1) ∧ z + 1 ≤ z)
    · rw [(h (z + 1)).1 y]; omega
    · rw [(h (z + 1)).2 y]
  · rw [hn q x]
    refine ⟨?_, ?_⟩
    · rintro (y | ⟨y, k⟩)
      · exact (h q).1 (Or.inl y)
      · exact (h q).1 (Or.inr ⟨y, by omega⟩)
    · intro n
      refine (h q).2 ?_
      rintro (y | ⟨y, k⟩)
      · exact n (Or.inl y)
      · exact n (Or.inr ⟨y, by omega⟩)
end
section
/-! how X lays the lists out -/
def bk_RQ (A : Nat → List bk_E) (qi qc : Nat → Int32) : Prop :=
  ∀ t, t < 3 → qc t = nI (A t).length ∧ ∀ i p, (A t)[i]? = some p → qi (t * 8 + i) = p.1
def bk_RH (A : Nat → List bk_E) (hi hg hc : Nat → Int32) : Prop :=
  ∀ r, r < 16 → hc r = nI (A (3 + r)).length ∧ ∀ i p, (A (3 + r))[i]? = some p → hi (r * 5 + i) = p.1 ∧ hg (r * 5 + i) = nI p.2.2
def bk_Len (A : Nat → List bk_E) : Prop := (∀ L, L < 3 → (A L).length ≤ 8) ∧ (∀ r, r < 16 → (A (3 + r)).length ≤ 5)
theorem bk_lt_of_some {l : List bk_E} {i : Nat} {p : bk_E} (h : l[i]? = some p) : i < l.length := (List.getElem?_eq_some_iff.mp h).1
section REP
variable {A : Nat → List bk_E} {qi qc hi hg hc : Nat → Int32}
theorem bk_RQ_ring (h : bk_RQ A qi qc) {L : Nat} (hL : 3 ≤ L) (l : List bk_E) : bk_RQ (bk_set A L l) qi qc := by
  intro t ht
  rw [bk_set_n (show t ≠ L by omega)]
  exact h t ht
theorem bk_RH_queue (h : bk_RH A hi hg hc) {t : Nat} (ht : t < 3) (l : List bk_E) : bk_RH (bk_set A t l) hi hg hc := by
  intro r hr
  rw [bk_set_n (show 3 + r ≠ t by omega)]
  exact h r hr
def bk_shl (f : Nat → Int32) (b c : Nat) : Nat → Int32 := fun j => if b ≤ j ∧ j < b + c then f (j + 1) else f j
theorem bk_RQ_pop (h : bk_RQ A qi qc) (hl : bk_Len A) {t : Nat} {p : bk_E} {l : List bk_E} (ht : t < 3) (hA : A t = p :: l) :
    bk_RQ (bk_set A t l) (bk_shl qi (t * 8) l.length) (upd qc t (nI l.length)) := by
  intro t' ht'
  have h8 := hl.1 t ht
  rw [hA, List.length_cons] at h8
  by_cases e : t' = t
  · subst e
    rw [bk_set_s, pk_us]
    refine ⟨rfl, fun i q hq => ?_⟩
    have hi := bk_lt_of_some hq
    have k := (h t' ht').2 (i + 1) q (by rw [hA, List.getElem?_cons_succ]; exact hq)
    unfold bk_shl
    rw [if_pos (by omega)]
    exact k
  · rw [bk_set_n e, pk_un e]
    refine ⟨(h t' ht').1, fun i q hq => ?_⟩
    have hi := bk_lt_of_some hq
    have h8' := hl.1 t' ht'
    unfold bk_shl
    rw [if_neg (by omega)]
    exact (h t' ht').2 i q hq
theorem bk_RQ_back (h : bk_RQ A qi qc) (hl : bk_Len A) {t : Nat} {p : bk_E} (ht : t < 3) (h8 : (A t).length < 8) :
    bk_RQ (bk_set A t (A t ++ [p])) (upd qi (t * 8 + (A t).length) p.1) (upd qc t (nI ((A t).length + 1))) := by
  intro t' ht'
  by_cases e : t' = t
  · subst e
    rw [bk_set_s, pk_us]
    refine ⟨by rw [List.length_append]; rfl, fun i q hq => ?_⟩
    by_cases z : i < (A t').length
    · rw [List.getElem?_append_left z] at hq
      rw [pk_un (by omega)]
      exact (h t' ht').2 i q hq
    · have hi := bk_lt_of_some hq
      rw [List.length_append, List.length_singleton] at hi
      have z : i = (A t').length := by omega
      subst z
      rw [List.getElem?_append_right (Nat.le_refl _), Nat.sub_self] at hq
      rw [pk_us]
      exact congrArg Prod.fst (Option.some.inj hq)
  · rw [bk_set_n e, pk_un e]
    refine ⟨(h t' ht').1, fun i q hq => ?_⟩
    have hi := bk_lt_of_some hq
    have h8' := hl.1 t' ht'
    rw [pk_un (by omega)]
    exact (h t' ht').2 i q hq
def bk_shr (f : Nat → Int32) (b c : Nat) (w : Int32) : Nat → Int32 := fun j => if j = b then w else if b < j ∧ j ≤ b + c then f (j - 1) else f j
theorem bk_RQ_front (h : bk_RQ A qi qc) (hl : bk_Len A) {t : Nat} {p : bk_E} (ht : t < 3) (h8 : (A t).length < 8) :
    bk_RQ (bk_set A t (p :: A t)) (bk_shr qi (t * 8) (A t).length p.1) (upd qc t (nI ((A t).length + 1))) := by
  intro t' ht'
  by_cases e : t' = t
  · subst e
    rw [bk_set_s, pk_us]
    refine ⟨rfl, fun i q hq => ?_⟩
    unfold bk_shr
    cases i with
    | zero =>
      rw [if_pos (by omega)]
      exact congrArg Prod.fst (Option.some.inj hq)
    | succ i =>
      rw [List.getElem?_cons_succ] at hq
      have hi := bk_lt_of_some hq
      rw [if_neg (by omega), if_pos (by omega)]
      exact (h t' ht').2 i q hq
  · rw [bk_set_n e, pk_un e]
    refine ⟨(h t' ht').1, fun i q hq => ?_⟩
    have hi := bk_lt_of_some hq
    have h8' := hl.1 t' ht'
    unfold bk_shr
    rw [if_neg (by omega), if_neg (by omega)]
    exact (h t' ht').2 i q hq
theorem bk_RH_push (h : bk_RH A hi hg hc) (hl : bk_Len A) {r : Nat} {p : bk_E} (hr : r < 16) (h5 : (A (3 + r)).length < 5) :
    bk_RH (bk_set A (3 + r) (A (3 + r) ++ [p])) (upd hi (r * 5 + (A (3 + r)).length) p.1) (upd hg (r * 5 + (A (3 + r)).length) (nI p.2.2)) (upd hc r (nI ((A (3 + r)).length + 1))) := by
  intro r' hr'
  by_cases e : r' = r
  · subst e
    rw [bk_set_s, pk_us]
    refine ⟨by rw [List.length_append]; rfl, fun i q hq => ?_⟩
    by_cases z : i < (A (3 + r')).length
    · rw [List.getElem?_append_left z] at hq
      rw [pk_un (by omega), pk_un (by omega)]
      exact (h r' hr').2 i q hq
    · have hi := bk_lt_of_some hq
      rw [List.length_append, List.length_singleton] at hi
      have z : i = (A (3 + r')).length := by omega
      subst z
      rw [List.getElem?_append_right (Nat.le_refl _), Nat.sub_self] at hq
      rw [pk_us, pk_us]
      have e := Option.some.inj hq
      exact ⟨congrArg Prod.fst e, congrArg (fun p : bk_E => nI p.2.2) e⟩
  · rw [bk_set_n (show 3 + r' ≠ 3 + r by omega), pk_un e]
    refine ⟨(h r' hr').1, fun i q hq => ?_⟩
    have hi := bk_lt_of_some hq
    have h8' := hl.2 r' hr'
    rw [pk_un (by omega), pk_un (by omega)]
    exact (h r' hr').2 i q hq
theorem bk_RH_nil (h : bk_RH A hi hg hc) {r : Nat} (hr : r < 16) : bk_RH (bk_set A (3 + r) []) hi hg (upd hc r 0) := by
  intro r' hr'
  by_cases e : r' = r
  · subst e
    rw [bk_set_s, pk_us]
    refine ⟨rfl, fun i q hq => ?_⟩
    exact absurd (bk_lt_of_some hq) (Nat.not_lt_zero i)
  · rw [bk_set_n (show 3 + r' ≠ 3 + r by omega), pk_un e]
    exact h r' hr'
/-- the holds from..to - 1 of ring r go, those behind move down -/
def bk_cut (f : Nat → Int32) (b i n e : Nat) : Nat → Int32 := fun j => if b + i ≤ j ∧ j + n < b + e then f (j + n) else f j
theorem bk_RH_cut (h : bk_RH A hi hg hc) (hl : bk_Len A) {r : Nat} {l1 l2 l3 : List bk_E} (hr : r < 16) (hA : A (3 + r) = l1 ++ (l2 ++ l3)) :
    bk_RH (bk_set A (3 + r) (l1 ++ l3)) (bk_cut hi (r * 5) l1.length l2.length (A (3 + r)).length) (bk_cut hg (r * 5) l1.length l2.length (A (3 + r)).length) (upd hc r (nI (l1.length + l3.length))) := by
  intro r' hr'
  have h5 := hl.2 r hr
  have len : (A (3 + r)).length = l1.length + (l2.length + l3.length) := by rw [hA, List.length_append, List.length_append]
  by_cases e : r' = r
  · subst e
    rw [bk_set_s, pk_us]
    refine ⟨by rw [List.length_append], fun i q hq => ?_⟩
    have hi' := bk_lt_of_some hq
    rw [List.length_append] at hi'
    unfold bk_cut
    by_cases z : i < l1.length
    · rw [List.getElem?_append_left z] at hq
      rw [if_neg (by omega), if_neg (by omega)]
      refine (h r' hr').2 i q ?_
      rw [hA, List.getElem?_append_left z]
      exact hq
    · rw [List.getElem?_append_right (by omega)] at hq
      rw [if_pos (by omega), if_pos (by omega)]
      have k := (h r' hr').2 (i + l2.length) q (by
        rw [hA, List.getElem?_append_right (by omega), List.getElem?_append_right (by omega), ← hq]
        exact congrArg (fun k => l3[k]?) (by omega))
      rw [Nat.add_assoc]
      exact k
  · rw [bk_set_n (show 3 + r' ≠ 3 + r by omega), pk_un e]
    refine ⟨(h r' hr').1, fun i q hq => ?_⟩
    have hi' := bk_lt_of_some hq
    have h5' := hl.2 r' hr'
    unfold bk_cut
    rw [if_neg (by omega), if_neg (by omega)]
    exact (h r' hr').2 i q hq
end REP
end
section
/-! comparisons and sums with literals -/
theorem bn_c (c : Nat) : (OfNat.ofNat c : Int32) = nI c := rfl
theorem bn_le (a c : Nat) (ha : a < 2 ^ 31) (hc : c < 2 ^ 31) : (nI a ≤ (no_index (OfNat.ofNat c) : Int32)) ↔ a ≤ (OfNat.ofNat c : Nat) := nI_leI (a := a) (b := c) ha hc
theorem bn_le2 (a c : Nat) (ha : a < 2 ^ 31) (hc : c < 2 ^ 31) : ((no_index (OfNat.ofNat c) : Int32) ≤ nI a) ↔ (OfNat.ofNat c : Nat) ≤ a := nI_leI (a := c) (b := a) hc ha
theorem bn_lt (a c : Nat) (ha : a < 2 ^ 31) (hc : c < 2 ^ 31) : (nI a < (no_index (OfNat.ofNat c) : Int32)) ↔ a < (OfNat.ofNat c : Nat) := nI_ltI (a := a) (b := c) ha hc
theorem bn_lt2 (a c : Nat) (ha : a < 2 ^ 31) (hc : c < 2 ^ 31) : ((no_index (OfNat.ofNat c) : Int32) < nI a) ↔ (OfNat.ofNat c : Nat) < a := nI_ltI (a := c) (b := a) hc ha
theorem bn_eq (a c : Nat) (ha : a < 2 ^ 31) (hc : c < 2 ^ 31) : (nI a = (no_index (OfNat.ofNat c) : Int32)) ↔ a = (OfNat.ofNat c : Nat) := nI_eq (a := a) (b := c) ha hc
theorem bn_eq2 (a c : Nat) (ha : a < 2 ^ 31) (hc : c < 2 ^ 31) : ((no_index (OfNat.ofNat c) : Int32) = nI a) ↔ (OfNat.ofNat c : Nat) = a := nI_eq (a := c) (b := a) hc ha
theorem bn_add (a c : Nat) : nI a + (no_index (OfNat.ofNat c) : Int32) = nI (a + (OfNat.ofNat c : Nat)) := nI_add a c
theorem bn_add2 (a c : Nat) : (no_index (OfNat.ofNat c) : Int32) + nI a = nI ((OfNat.ofNat c : Nat) + a) := nI_add c a
theorem bn_mul (a c : Nat) : nI a * (no_index (OfNat.ofNat c) : Int32) = nI (a * (OfNat.ofNat c : Nat)) := pk_mul a c
theorem bn_mul2 (a c : Nat) : (no_index (OfNat.ofNat c) : Int32) * nI a = nI ((OfNat.ofNat c : Nat) * a) := pk_mul c a
theorem bn_sub (a c : Nat) (h : (OfNat.ofNat c : Nat) ≤ a) : nI a - (no_index (OfNat.ofNat c) : Int32) = nI (a - (OfNat.ofNat c : Nat)) := pk_sub (a := a) (b := c) h
theorem bn_div (a c : Nat) (ha : a < 2 ^ 31) (h0 : 0 < (OfNat.ofNat c : Nat)) (hc : c < 2 ^ 31) : nI a / (no_index (OfNat.ofNat c) : Int32) = nI (a / (OfNat.ofNat c : Nat)) := pk_div (a := a) (d := c) ha h0 hc
theorem bn_m1 (a : Nat) (h : 1 ≤ a) : nI a + (-1) = nI (a - 1) := by
  obtain ⟨b, rfl⟩ : ∃ b, a = b + 1 := ⟨a - 1, by omega⟩
  exact pk_m1 b
theorem bn_in (k N : Nat) (h : k < 2 ^ 31) : vp_in (nI k) N ↔ k < N := by
  rw [vp_in_iff, nI_toInt h]; omega
theorem bn_neg (a : Nat) (h : a < 2 ^ 31) : (nI a < (-1 : Int32)) ↔ False := by
  rw [Int32.lt_iff_toInt_lt, nI_toInt h, show (-1 : Int32).toInt = -1 from by decide]
  constructor
  · intro x; omega
  · exact False.elim
theorem bn_nem1 (a : Nat) (h : a < 2 ^ 31) : (nI a = (-1 : Int32)) ↔ False := ⟨fun e => bk_nm1 h e, False.elim⟩
theorem bn_255 (a : Nat) (h : a < 2 ^ 31) : nI a &&& 255 = nI (a % 256) := pk_andN (n := a) (by omega) 8 (by decide)
theorem bn_127 (a : Nat) (h : a < 2 ^ 31) : nI a &&& 127 = nI (a % 128) := pk_andN (n := a) (by omega) 7 (by decide)
theorem bn_15 (a : Nat) (h : a < 2 ^ 31) : nI a &&& 15 = nI (a % 16) := pk_andN (n := a) (by omega) 4 (by decide)
theorem bn_128 : ∀ b, b < 256 → (nI b &&& 128 = 0 ↔ b < 128) := by decide +kernel
theorem bn_64 : ∀ b, b < 256 → (nI b &&& 64 = 0 ↔ b / 64 % 2 = 0) := by decide +kernel
theorem bn_48 : ∀ b, b < 256 → (nI b &&& 48 = 0 ↔ b / 16 % 4 = 0) := by decide +kernel
theorem bn_xor {a b : Nat} (ha : a < 256) (hb : b < 256) : a ^^^ b < 256 := Nat.xor_lt_two_pow (n := 8) ha hb
theorem bn_b1 : vp_nar .boolean 1 = 1 := by decide
theorem bn_b0 : vp_nar .boolean 0 = 0 := by decide
theorem bn_n1 : narrow .boolean (.int 1) = .int 1 := by rfl
theorem bn_n0 : narrow .boolean (.int 0) = .int 0 := by rfl
theorem wk_t {c A B : Prop} (h : c) : ((c → A) ∧ (¬ c → B)) ↔ A := ⟨fun x => x.1 h, fun a => ⟨fun _ => a, fun n => absurd h n⟩⟩
theorem wk_f {c A B : Prop} (h : ¬ c) : ((c → A) ∧ (¬ c → B)) ↔ B := ⟨fun x => x.2 h, fun b => ⟨fun n => absurd n h, fun _ => b⟩⟩
theorem wk_i {i : Int32} {N : Nat} {P : Prop} (h : vp_in i N) : (vp_in i N ∧ P) ↔ P := ⟨fun x => x.2, fun p => ⟨h, p⟩⟩
end
section
/-! the desk: what queues, holds, outputs and tags have in common on both sides (X's rows of holds stand apart: bk_RH) -/
def bk_G1 (A : Nat → List bk_E) (th pl md cr : Nat → Int32) (r : Nat) : Prop :=
  (th r = 0 ∧ A (3 + r) = []) ∨ (th r = 1 ∧ ∃ t m c : Nat, pl r = nI t ∧ t < 6 ∧ md r = nI m ∧ m < 3 ∧ cr r = nI c ∧ 1 ≤ c ∧ c ≤ 5 ∧ (m = 0 → A (3 + r) = []) ∧ (A (3 + r)).length ≤ c)
def bk_G2 (B : Nat) (g : Nat → Nat) (st ol gv ta : Nat → Int32) (s : Nat) : Prop :=
  gv s = nI (g s) ∧ ta s = nI (g s % 256) ∧ g s ≤ B ∧ (∃ a, a ≤ 240 ∧ ol s = nI a) ∧ (∃ a, a ≤ 2 ∧ st s = nI a)
def bk_C (B : Nat) (A : Nat → List bk_E) (g : Nat → Nat) (st ol th pl md cr lr gv ib il it qi qc ta wh od tg tr so bd : Nat → Int32) (fr en : Int32) : Prop :=
  bk_Con A il it ib wh od tg tr so bd pl g fr.toInt en.toInt ∧ bk_RQ A qi qc ∧ (∀ r, r < 16 → bk_G1 A th pl md cr r) ∧
  (∀ s, s < 4 → bk_G2 B g st ol gv ta s) ∧ (∀ t, t < 6 → lr t = -1 ∨ ∃ r, r < 16 ∧ lr t = nI r) ∧
  (-(B : Int) ≤ fr.toInt ∧ fr.toInt ≤ 0 ∧ 0 ≤ en.toInt ∧ en.toInt ≤ B)
theorem dk_inc {x : Int32} {B : Nat} (h : x.toInt ≤ B) (h0 : 0 ≤ x.toInt) (hB : B ≤ 100000000) : (x + 1).toInt = x.toInt + 1 := by
  rw [Int32.toInt_add, show (1 : Int32).toInt = 1 from by decide]
  exact Int.bmod_eq_of_le (by omega) (by omega)
theorem dk_dec {x : Int32} {B : Nat} (h : -(B : Int) ≤ x.toInt) (h0 : x.toInt ≤ 0) (hB : B ≤ 100000000) : (x - 1).toInt = x.toInt - 1 := by
  rw [Int32.toInt_sub, show (1 : Int32).toInt = 1 from by decide]
  exact Int.bmod_eq_of_le (by omega) (by omega)
def bk_up (g : Nat → Nat) (s : Nat) : Nat → Nat := fun z => if z = s then g s + 1 else g z
theorem bk_up_s {g : Nat → Nat} {s : Nat} : bk_up g s s = g s + 1 := if_pos rfl
theorem bk_up_n {g : Nat → Nat} {s z : Nat} (h : z ≠ s) : bk_up g s z = g z := if_neg h
theorem bk_up_le (g : Nat → Nat) (s z : Nat) : g z ≤ bk_up g s z := by
  by_cases h : z = s
  · subst h; rw [bk_up_s]; omega
  · rw [bk_up_n h]; omega
section DESK
variable {B : Nat} {A : Nat → List bk_E} {g : Nat → Nat} {st ol th pl md cr lr gv hc hg hi ib il it qi qc ta wh od tg tr so bd : Nat → Int32} {fr en : Int32}
theorem dk_len (h : bk_C B A g st ol th pl md cr lr gv ib il it qi qc ta wh od tg tr so bd fr en) : bk_Len A := h.1.2.2.2.2.2.1
theorem dk_mono (h : bk_C B A g st ol th pl md cr lr gv ib il it qi qc ta wh od tg tr so bd fr en) {B' : Nat} (hb : B ≤ B') : bk_C B' A g st ol th pl md cr lr gv ib il it qi qc ta wh od tg tr so bd fr en := by
  obtain ⟨h1, h2, h3, h4, h5, h6⟩ := h
  refine ⟨h1, h2, h3, fun s hs => ?_, h5, by omega⟩
  obtain ⟨a, b, c, d⟩ := h4 s hs
  exact ⟨a, b, by omega, d⟩
/-- the sessions' part when s is given something: n bytes more behind five -/
theorem dk_G2 (h : ∀ s, s < 4 → bk_G2 B g st ol gv ta s) {s a : Nat} (hs : s < 4) (ha : a ≤ 240) : ∀ z, z < 4 → bk_G2 (B + 1) (bk_up g s) st (upd ol s (nI a)) (upd gv s (nI (g s + 1))) (upd ta s (nI ((g s % 256 + 1) % 256))) z := by
  intro z hz
  obtain ⟨e1, e2, e3, e4, e5⟩ := h z hz
  by_cases e : z = s
  · subst e
    refine ⟨by rw [pk_us, bk_up_s], by rw [pk_us, bk_up_s]; exact congrArg nI (by omega), by rw [bk_up_s]; omega, ⟨a, ha, pk_us⟩, e5⟩
  · refine ⟨by rw [pk_un e, bk_up_n e]; exact e1, by rw [pk_un e, bk_up_n e]; exact e2, by rw [bk_up_n e]; omega, by rw [pk_un e]; exact e4, e5⟩
theorem dk_lr (h : ∀ t, t < 6 → lr t = -1 ∨ ∃ r, r < 16 ∧ lr t = nI r) {t r : Nat} (hr : r < 16) : ∀ z, z < 6 → upd lr t (nI r) z = -1 ∨ ∃ r', r' < 16 ∧ upd lr t (nI r) z = nI r' := by
  intro z hz
  by_cases e : z = t
  · subst e; exact Or.inr ⟨r, hr, pk_us⟩
  · rw [pk_un e]; exact h z hz
theorem dk_G1q (h : ∀ r, r < 16 → bk_G1 A th pl md cr r) {t : Nat} (ht : t < 3) (l : List bk_E) : ∀ r, r < 16 → bk_G1 (bk_set A t l) th pl md cr r := by
  intro r hr
  have k := h r hr
  unfold bk_G1 at k ⊢
  rw [bk_set_n (show 3 + r ≠ t by omega)]
  exact k
/-- an entry of ring r goes -/
theorem dk_G1r (h : ∀ r, r < 16 → bk_G1 A th pl md cr r) {r : Nat} {p : bk_E} {l1 l2 : List bk_E} (hA : A (3 + r) = l1 ++ p :: l2) : ∀ z, z < 16 → bk_G1 (bk_set A (3 + r) (l1 ++ l2)) th pl md cr z := by
  intro z hz
  have k := h z hz
  unfold bk_G1 at k ⊢
  by_cases e : z = r
  · subst e
    rw [bk_set_s]
    have ne : A (3 + z) ≠ [] := by rw [hA]; simp
    rcases k with ⟨_, k⟩ | ⟨k0, t, m, c, k1, k2, k3, k4, k5, k6, k7, k8, k9⟩
    · exact absurd k ne
    · refine Or.inr ⟨k0, t, m, c, k1, k2, k3, k4, k5, k6, k7, fun z => absurd (k8 z) ne, ?_⟩
      rw [hA] at k9
      simp only [List.length_append, List.length_cons] at k9 ⊢
      omega
  · rw [bk_set_n (show 3 + z ≠ 3 + r by omega)]
    exact k
/-- an entry comes to ring r -/
theorem dk_G1p (h : ∀ r, r < 16 → bk_G1 A th pl md cr r) {r m c : Nat} (p : bk_E) (hr : r < 16) (ht : th r = 1) (hm : md r = nI m) (hm3 : m < 3) (hm0 : m ≠ 0) (hc : cr r = nI c) (hc5 : c ≤ 5) (hlt : (A (3 + r)).length < c) : ∀ z, z < 16 → bk_G1 (bk_set A (3 + r) (A (3 + r) ++ [p])) th pl md cr z := by
  intro z hz
  have k := h z hz
  unfold bk_G1 at k ⊢
  by_cases e : z = r
  · subst e
    rw [bk_set_s]
    rcases k with ⟨k, _⟩ | ⟨k0, t, m', c', k1, k2, k3, k4, k5, k6, k7, k8, k9⟩
    · rw [ht] at k; exact absurd k (by decide)
    · refine Or.inr ⟨k0, t, m, c, k1, k2, hm, hm3, hc, by omega, hc5, fun z => absurd z hm0, ?_⟩
      rw [List.length_append, List.length_singleton]
      omega
  · rw [bk_set_n (show 3 + z ≠ 3 + r by omega)]
    exact k
theorem dk_fre {p : bk_E} {q n : Nat} (hq : q < 104) (e : p.1 = nI q) (hn : il q = nI n) : upd (bk_fre il p.1) q (nI n) = il ∧ bk_fre il p.1 = upd il q 0 ∧ bk_fre il p.1 q = 0 := by
  have z : bk_fre il p.1 = upd il q 0 := by
    unfold bk_fre
    rw [if_neg (by rw [e]; exact bk_nm1 (by omega)), e, nI_clamp (by omega)]
  rw [z]
  refine ⟨?_, rfl, pk_us⟩
  rw [bk_uu]
  exact bk_uid il q (nI n) hn
/-- the head of queue t goes to ring r, which holds it -/
theorem dk_giveQ1 (h : bk_C B A g st ol th pl md cr lr gv ib il it qi qc ta wh od tg tr so bd fr en) (rh : bk_RH A hi hg hc) (hB : B ≤ 100000000) {t r m c a : Nat} {p : bk_E} {l : List bk_E} (ht : t < 3) (hA : A t = p :: l)
    (hr : r < 16) (h1 : th r = 1) (hp : pl r = nI t) (hm : md r = nI m) (hm3 : m < 3) (hm0 : m ≠ 0) (hc' : cr r = nI c) (hc5 : c ≤ 5) (hlt : (A (3 + r)).length < c) (ha : a ≤ 240) :
    bk_C (B + 1) (bk_set (bk_set A t l) (3 + r) (A (3 + r) ++ [(p.1, p.2.1, g (r / 4))])) (bk_up g (r / 4)) st (upd ol (r / 4) (nI a)) th pl md cr (upd lr t (nI r)) (upd gv (r / 4) (nI (g (r / 4) + 1))) ib il it
      (bk_shl qi (t * 8) l.length) (upd qc t (nI l.length)) (upd ta (r / 4) (nI ((g (r / 4) % 256 + 1) % 256))) (upd wh p.2.1 (nI (3 + r))) (upd od p.2.1 (en + 1)) (upd tg p.2.1 (ta (r / 4))) tr so bd fr (en + 1) ∧
    bk_RH (bk_set (bk_set A t l) (3 + r) (A (3 + r) ++ [(p.1, p.2.1, g (r / 4))])) (upd hi (r * 5 + (A (3 + r)).length) p.1) (upd hg (r * 5 + (A (3 + r)).length) (nI (g (r / 4)))) (upd hc r (nI ((A (3 + r)).length + 1))) := by
  have hl := dk_len h
  obtain ⟨h1', h2, h3, h4, h5, h6⟩ := h
  have inc := dk_inc (x := en) h6.2.2.2 h6.2.2.1 hB
  have hpm : p ∈ A t := by rw [hA]; exact List.mem_cons_self
  have c0 := h1'.1 t p (by omega) hpm
  have k1 := bk_rm h1' (l1 := []) (by omega) hA
  rw [List.nil_append] at k1
  have k2 := bk_frame (it' := it) (ib' := ib) (od' := upd od p.2.1 (en + 1)) (tg' := upd tg p.2.1 (ta (r / 4))) (tr' := tr) (so' := so) (bd' := bd) (g' := g) (fr' := fr.toInt) (en' := (en + 1).toInt) k1
    (fun _ _ _ => ⟨rfl, fun _ _ => rfl⟩) (fun y _ hy => by
      have ne : y ≠ p.2.1 := fun e => hy (by rw [e]; exact pk_us)
      exact ⟨pk_un ne, pk_un ne, rfl, rfl, fun _ _ => rfl⟩) (fun _ => Nat.le_refl _) (Int.le_refl _) (by omega)
  have qu : bk_Qu pl (3 + r) := by
    right
    rw [show 3 + r - 3 = r by omega, hp]
    exact nI_lt (b := 3) (by omega) (by omega)
  have qt : bk_Qu pl t := Or.inl ht
  rcases c0.2.2.1 with ⟨_, q, n, tt, o1, o2, o3, o4, o5, o6, o7, o8, o9, o10⟩ | ⟨x, _⟩
  rotate_left
  · exact absurd qt x
  obtain ⟨f1, f2, f3⟩ := dk_fre (il := il) o1 o2 o6
  have e3 : bk_set A t l (3 + r) = A (3 + r) := bk_set_n (by omega)
  have old : ∀ M q', M < 19 → q' ∈ bk_set A t l M → ((upd od p.2.1 (en + 1)) q'.2.1).toInt ≤ en.toInt := by
    intro M q' hM hq'
    have w := (k1.1 M q' hM hq')
    have ne : q'.2.1 ≠ p.2.1 := by
      intro e
      have w2 := w.2.1
      rw [e, pk_us] at w2
      exact bk_nm1 (by omega) w2.symm
    rw [pk_un ne]
    exact w.2.2.2.2
  have new : ((upd od p.2.1 (en + 1)) p.2.1).toInt = en.toInt + 1 := by rw [pk_us, inc]
  have k3 := bk_ins (L := 3 + r) (p := (p.1, p.2.1, g (r / 4))) (l' := A (3 + r) ++ [(p.1, p.2.1, g (r / 4))]) (il' := il) (g' := bk_up g (r / 4)) k2 (by omega)
    (fun q' => by rw [e3, List.mem_append, List.mem_singleton, or_comm])
    (by
      rw [List.pairwise_append]
      refine ⟨by have := k2.2.1 (3 + r) (by omega); rw [e3] at this; exact this, List.pairwise_singleton _ _, ?_⟩
      intro a' ha' b' hb'
      rw [List.mem_singleton] at hb'
      subst hb'
      have := old (3 + r) a' (by omega) (by rw [e3]; exact ha')
      show ((upd od p.2.1 (en + 1)) a'.2.1).toInt < ((upd od p.2.1 (en + 1)) p.2.1).toInt
      omega)
    ⟨fun x => by omega, fun _ => by rw [List.length_append, List.length_singleton]; omega⟩ c0.1 pk_us
    (Or.inl ⟨qu, q, n, tt, o1, o2, f3, f1.symm, o3, o4, o5, o7, o8, o9, o10⟩)
    (by
      show fr.toInt ≤ ((upd od p.2.1 (en + 1)) p.2.1).toInt ∧ ((upd od p.2.1 (en + 1)) p.2.1).toInt ≤ (en + 1).toInt
      omega) (bk_up_le g (r / 4))
    (fun r' e => by
      have e : r' = r := by omega
      subst e
      refine ⟨by rw [bk_up_s]; exact Nat.lt_succ_self _, ?_⟩
      show upd tg p.2.1 (ta (r' / 4)) p.2.1 = _
      rw [pk_us]
      exact (h4 (r' / 4) (by omega)).2.1)
    (fun r' r'' q' e hr'' e4 hq' => by
      have e : r' = r := by omega
      subst e
      have w := (k2.2.2.2.2.2.2.1 r'' q' hr'' hq').1
      have o := old (3 + r'') q' (by omega) hq'
      rw [← e4] at w
      refine ⟨⟨fun _ => ?_, fun _ => w⟩, ⟨fun x => ?_, fun x => ?_⟩, Nat.ne_of_lt w⟩
      · show ((upd od p.2.1 (en + 1)) q'.2.1).toInt < ((upd od p.2.1 (en + 1)) p.2.1).toInt
        omega
      · have x : g (r' / 4) < q'.2.2 := x
        omega
      · have x : ((upd od p.2.1 (en + 1)) p.2.1).toInt < ((upd od p.2.1 (en + 1)) q'.2.1).toInt := x
        omega)
  have e5 : upd (upd wh p.2.1 (-1)) (p.1, p.2.1, g (r / 4)).2.1 (nI (3 + r)) = upd wh p.2.1 (nI (3 + r)) := bk_uu _ _ _ _
  rw [e5] at k3
  refine ⟨⟨k3, ?_, ?_, dk_G2 h4 (by omega) ha, dk_lr h5 hr, by omega⟩, ?_⟩
  · exact bk_RQ_ring (bk_RQ_pop h2 hl ht hA) (by omega) _
  · have w := dk_G1p (dk_G1q h3 ht l) (r := r) (m := m) (c := c) (p.1, p.2.1, g (r / 4)) hr h1 hm hm3 hm0 hc' hc5 (by rw [e3]; exact hlt)
    rw [e3] at w
    exact w
  · have w := bk_RH_push (bk_RH_queue rh ht l) (r := r) (p := (p.1, p.2.1, g (r / 4))) ⟨k1.2.2.2.2.2.1.1, k1.2.2.2.2.2.1.2⟩ hr (by rw [e3]; omega)
    rw [e3] at w
    exact w
/-- the head of queue t goes to ring r, which does not hold it -/
theorem dk_giveQ0 (h : bk_C B A g st ol th pl md cr lr gv ib il it qi qc ta wh od tg tr so bd fr en) (rh : bk_RH A hi hg hc) (hB : B ≤ 100000000) {t r a : Nat} {p : bk_E} {l : List bk_E} (ht : t < 3) (hA : A t = p :: l)
    (hr : r < 16) (ha : a ≤ 240) :
    bk_C (B + 1) (bk_set A t l) (bk_up g (r / 4)) st (upd ol (r / 4) (nI a)) th pl md cr (upd lr t (nI r)) (upd gv (r / 4) (nI (g (r / 4) + 1))) ib (bk_fre il p.1) it
      (bk_shl qi (t * 8) l.length) (upd qc t (nI l.length)) (upd ta (r / 4) (nI ((g (r / 4) % 256 + 1) % 256))) (upd wh p.2.1 (-1)) (upd od p.2.1 (en + 1)) (upd tg p.2.1 (ta (r / 4))) tr so bd fr (en + 1) ∧
    bk_RH (bk_set A t l) hi hg hc := by
  have hl := dk_len h
  obtain ⟨h1', h2, h3, h4, h5, h6⟩ := h
  have inc := dk_inc (x := en) h6.2.2.2 h6.2.2.1 hB
  have k1 := bk_rm h1' (l1 := []) (by omega) hA
  rw [List.nil_append] at k1
  have k2 := bk_frame (it' := it) (ib' := ib) (od' := upd od p.2.1 (en + 1)) (tg' := upd tg p.2.1 (ta (r / 4))) (tr' := tr) (so' := so) (bd' := bd) (g' := bk_up g (r / 4)) (fr' := fr.toInt) (en' := (en + 1).toInt) k1
    (fun _ _ _ => ⟨rfl, fun _ _ => rfl⟩) (fun y _ hy => by
      have ne : y ≠ p.2.1 := fun e => hy (by rw [e]; exact pk_us)
      exact ⟨pk_un ne, pk_un ne, rfl, rfl, fun _ _ => rfl⟩) (bk_up_le g (r / 4)) (Int.le_refl _) (by omega)
  exact ⟨⟨k2, bk_RQ_pop h2 hl ht hA, dk_G1q h3 ht l, dk_G2 h4 (by omega) ha, dk_lr h5 hr, by omega⟩, bk_RH_queue rh ht l⟩
/-- an item of a stream goes to ring r, which holds it -/
theorem dk_giveS1 (h : bk_C B A g st ol th pl md cr lr gv ib il it qi qc ta wh od tg tr so bd fr en) (rh : bk_RH A hi hg hc) (hB : B ≤ 100000000) {t r m c a y : Nat} {tr' so' bd' : Nat → Int32} (ht : 3 ≤ t) (ht6 : t < 6)
    (hr : r < 16) (h1 : th r = 1) (hp : pl r = nI t) (hm : md r = nI m) (hm3 : m < 3) (hm0 : m ≠ 0) (hc' : cr r = nI c) (hc5 : c ≤ 5) (hlt : (A (3 + r)).length < c) (ha : a ≤ 240)
    (hy : y < 112) (hw : wh y = -1) (hY : ∀ z, z < 112 → z ≠ y → tr' z = tr z ∧ so' z = so z ∧ ∀ j, j < 16 → bd' (16 * z + j) = bd (16 * z + j)) :
    bk_C (B + 1) (bk_set A (3 + r) (A (3 + r) ++ [(-1, y, g (r / 4))])) (bk_up g (r / 4)) st (upd ol (r / 4) (nI a)) th pl md cr (upd lr t (nI r)) (upd gv (r / 4) (nI (g (r / 4) + 1))) ib il it
      qi qc (upd ta (r / 4) (nI ((g (r / 4) % 256 + 1) % 256))) (upd wh y (nI (3 + r))) (upd od y (en + 1)) (upd tg y (ta (r / 4))) tr' so' bd' fr (en + 1) ∧
    bk_RH (bk_set A (3 + r) (A (3 + r) ++ [(-1, y, g (r / 4))])) (upd hi (r * 5 + (A (3 + r)).length) (-1)) (upd hg (r * 5 + (A (3 + r)).length) (nI (g (r / 4)))) (upd hc r (nI ((A (3 + r)).length + 1))) := by
  have hl := dk_len h
  obtain ⟨h1', h2, h3, h4, h5, h6⟩ := h
  have inc := dk_inc (x := en) h6.2.2.2 h6.2.2.1 hB
  have k2 := bk_frame (it' := it) (ib' := ib) (od' := upd od y (en + 1)) (tg' := upd tg y (ta (r / 4))) (tr' := tr') (so' := so') (bd' := bd') (g' := g) (fr' := fr.toInt) (en' := (en + 1).toInt) h1'
    (fun _ _ _ => ⟨rfl, fun _ _ => rfl⟩) (fun z hz hzw => by
      have ne : z ≠ y := fun e => hzw (by rw [e]; exact hw)
      obtain ⟨a1, a2, a3⟩ := hY z hz ne
      exact ⟨pk_un ne, pk_un ne, a1, a2, a3⟩) (fun _ => Nat.le_refl _) (Int.le_refl _) (by omega)
  have qu : ¬ bk_Qu pl (3 + r) := by
    rintro (x | x)
    · omega
    · rw [show 3 + r - 3 = r by omega, hp] at x
      exact absurd x (nI_nlt (b := 3) ht (by omega))
  have old : ∀ M q', M < 19 → q' ∈ A M → ((upd od y (en + 1)) q'.2.1).toInt ≤ en.toInt := by
    intro M q' hM hq'
    have w := (h1'.1 M q' hM hq')
    have ne : q'.2.1 ≠ y := by
      intro e
      have w2 := w.2.1
      rw [e, hw] at w2
      exact bk_nm1 (by omega) w2.symm
    rw [pk_un ne]
    exact w.2.2.2.2
  have new : ((upd od y (en + 1)) y).toInt = en.toInt + 1 := by rw [pk_us, inc]
  have k3 := bk_ins (L := 3 + r) (p := (-1, y, g (r / 4))) (l' := A (3 + r) ++ [(-1, y, g (r / 4))]) (il' := il) (g' := bk_up g (r / 4)) k2 (by omega)
    (fun q' => by rw [List.mem_append, List.mem_singleton, or_comm])
    (by
      rw [List.pairwise_append]
      refine ⟨k2.2.1 (3 + r) (by omega), List.pairwise_singleton _ _, ?_⟩
      intro a' ha' b' hb'
      rw [List.mem_singleton] at hb'
      subst hb'
      have := old (3 + r) a' (by omega) ha'
      show ((upd od y (en + 1)) a'.2.1).toInt < ((upd od y (en + 1)) y).toInt
      omega)
    ⟨fun x => by omega, fun _ => by rw [List.length_append, List.length_singleton]; omega⟩ hy hw
    (Or.inr ⟨qu, rfl, rfl⟩)
    (by
      show fr.toInt ≤ ((upd od y (en + 1)) y).toInt ∧ ((upd od y (en + 1)) y).toInt ≤ (en + 1).toInt
      omega) (bk_up_le g (r / 4))
    (fun r' e => by
      have e : r' = r := by omega
      subst e
      refine ⟨by rw [bk_up_s]; exact Nat.lt_succ_self _, ?_⟩
      show upd tg y (ta (r' / 4)) y = _
      rw [pk_us]
      exact (h4 (r' / 4) (by omega)).2.1)
    (fun r' r'' q' e hr'' e4 hq' => by
      have e : r' = r := by omega
      subst e
      have w := (k2.2.2.2.2.2.2.1 r'' q' hr'' hq').1
      have o := old (3 + r'') q' (by omega) hq'
      rw [← e4] at w
      refine ⟨⟨fun _ => ?_, fun _ => w⟩, ⟨fun x => ?_, fun x => ?_⟩, Nat.ne_of_lt w⟩
      · show ((upd od y (en + 1)) q'.2.1).toInt < ((upd od y (en + 1)) y).toInt
        omega
      · have x : g (r' / 4) < q'.2.2 := x
        omega
      · have x : ((upd od y (en + 1)) y).toInt < ((upd od y (en + 1)) q'.2.1).toInt := x
        omega)
  refine ⟨⟨k3, bk_RQ_ring h2 (by omega) _, dk_G1p h3 _ hr h1 hm hm3 hm0 hc' hc5 hlt, dk_G2 h4 (by omega) ha, dk_lr h5 hr, by omega⟩, ?_⟩
  exact bk_RH_push rh (r := r) (p := (-1, y, g (r / 4))) hl hr (by omega)
/-- an item of a stream goes to ring r, which does not hold it -/
theorem dk_giveS0 (h : bk_C B A g st ol th pl md cr lr gv ib il it qi qc ta wh od tg tr so bd fr en) (hB : B ≤ 100000000) {t r a y : Nat} {tr' so' bd' : Nat → Int32}
    (hr : r < 16) (ha : a ≤ 240)
    (hw : wh y = -1) (hY : ∀ z, z < 112 → z ≠ y → tr' z = tr z ∧ so' z = so z ∧ ∀ j, j < 16 → bd' (16 * z + j) = bd (16 * z + j)) :
    bk_C (B + 1) A (bk_up g (r / 4)) st (upd ol (r / 4) (nI a)) th pl md cr (upd lr t (nI r)) (upd gv (r / 4) (nI (g (r / 4) + 1))) ib il it
      qi qc (upd ta (r / 4) (nI ((g (r / 4) % 256 + 1) % 256))) (upd wh y (-1)) (upd od y (en + 1)) (upd tg y (ta (r / 4))) tr' so' bd' fr (en + 1) := by
  obtain ⟨h1', h2, h3, h4, h5, h6⟩ := h
  have inc := dk_inc (x := en) h6.2.2.2 h6.2.2.1 hB
  have k2 := bk_frame (it' := it) (ib' := ib) (od' := upd od y (en + 1)) (tg' := upd tg y (ta (r / 4))) (tr' := tr') (so' := so') (bd' := bd') (g' := bk_up g (r / 4)) (fr' := fr.toInt) (en' := (en + 1).toInt) h1'
    (fun _ _ _ => ⟨rfl, fun _ _ => rfl⟩) (fun z hz hzw => by
      have ne : z ≠ y := fun e => hzw (by rw [e]; exact hw)
      obtain ⟨a1, a2, a3⟩ := hY z hz ne
      exact ⟨pk_un ne, pk_un ne, a1, a2, a3⟩) (bk_up_le g (r / 4)) (Int.le_refl _) (by omega)
  rw [bk_uid wh y (-1) hw]
  exact ⟨k2, h2, h3, dk_G2 h4 (by omega) ha, dk_lr h5 hr, by omega⟩
/-- an item is sent to queue t -/
theorem dk_send (h : bk_C B A g st ol th pl md cr lr gv ib il it qi qc ta wh od tg tr so bd fr en) (rh : bk_RH A hi hg hc) (hB : B ≤ 100000000) {t n y q : Nat} {it' ib' tr' so' bd' : Nat → Int32} (ht : t < 3) (h8 : (A t).length < 8)
    (hn1 : 1 ≤ n) (hn16 : n ≤ 16) (hq : q < 104) (hil : il q = 0) (hy : y < 112) (hw : wh y = -1)
    (hX : ∀ z, z < 104 → z ≠ q → it' z = it z ∧ ∀ j, j < 16 → ib' (z * 16 + j) = ib (z * 16 + j))
    (hY : ∀ z, z < 112 → z ≠ y → tr' z = tr z ∧ so' z = so z ∧ ∀ j, j < 16 → bd' (16 * z + j) = bd (16 * z + j))
    (hit : it' q = 0) (htr : tr' y = 0) (hso : so' y = nI n) (hb : ∀ j, j < n → ib' (q * 16 + j) = bd' (16 * y + j)) :
    bk_C (B + 1) (bk_set A t (A t ++ [(nI q, y, 0)])) g st ol th pl md cr lr gv ib' (upd il q (nI n)) it'
      (upd qi (t * 8 + (A t).length) (nI q)) (upd qc t (nI ((A t).length + 1))) ta (upd wh y (nI t)) (upd od y (en + 1)) tg tr' so' bd' fr (en + 1) ∧
    bk_RH (bk_set A t (A t ++ [(nI q, y, 0)])) hi hg hc := by
  have hl := dk_len h
  obtain ⟨h1', h2, h3, h4, h5, h6⟩ := h
  have inc := dk_inc (x := en) h6.2.2.2 h6.2.2.1 hB
  have k2 := bk_frame (it' := it') (ib' := ib') (od' := upd od y (en + 1)) (tg' := tg) (tr' := tr') (so' := so') (bd' := bd') (g' := g) (fr' := fr.toInt) (en' := (en + 1).toInt) h1'
    (fun z hz hzi => by
      have ne : z ≠ q := fun e => hzi (by rw [e]; exact hil)
      exact hX z hz ne) (fun z hz hzw => by
      have ne : z ≠ y := fun e => hzw (by rw [e]; exact hw)
      obtain ⟨a1, a2, a3⟩ := hY z hz ne
      exact ⟨pk_un ne, rfl, a1, a2, a3⟩) (fun _ => Nat.le_refl _) (Int.le_refl _) (by omega)
  have old : ∀ M q', M < 19 → q' ∈ A M → ((upd od y (en + 1)) q'.2.1).toInt ≤ en.toInt := by
    intro M q' hM hq'
    have w := (h1'.1 M q' hM hq')
    have ne : q'.2.1 ≠ y := by
      intro e
      have w2 := w.2.1
      rw [e, hw] at w2
      exact bk_nm1 (by omega) w2.symm
    rw [pk_un ne]
    exact w.2.2.2.2
  have new : ((upd od y (en + 1)) y).toInt = en.toInt + 1 := by rw [pk_us, inc]
  have k3 := bk_ins (L := t) (p := (nI q, y, 0)) (l' := A t ++ [(nI q, y, 0)]) (il' := upd il q (nI n)) (g' := g) k2 (by omega)
    (fun q' => by rw [List.mem_append, List.mem_singleton, or_comm])
    (by
      rw [List.pairwise_append]
      refine ⟨k2.2.1 t (by omega), List.pairwise_singleton _ _, ?_⟩
      intro a' ha' b' hb'
      rw [List.mem_singleton] at hb'
      subst hb'
      have := old t a' (by omega) ha'
      show ((upd od y (en + 1)) a'.2.1).toInt < ((upd od y (en + 1)) y).toInt
      omega)
    ⟨fun _ => by rw [List.length_append, List.length_singleton]; omega, fun x => by omega⟩ hy hw
    (Or.inl ⟨Or.inl ht, q, n, 0, hq, rfl, hil, rfl, hn1, hn16, by omega, hso, hit, htr, hb⟩)
    (by
      show fr.toInt ≤ ((upd od y (en + 1)) y).toInt ∧ ((upd od y (en + 1)) y).toInt ≤ (en + 1).toInt
      omega) (fun _ => Nat.le_refl _) (fun r' e => by omega) (fun r' r'' q' e => by omega)
  exact ⟨⟨k3, bk_RQ_back h2 hl ht h8, dk_G1q h3 ht _, fun s hs => by
    obtain ⟨a, b, c, d⟩ := h4 s hs
    exact ⟨a, b, by omega, d⟩, h5, by omega⟩, bk_RH_queue rh ht _⟩
/-- an entry of ring r is held no more, and gone -/
theorem dk_drop (h : bk_C B A g st ol th pl md cr lr gv ib il it qi qc ta wh od tg tr so bd fr en) {r : Nat} {p : bk_E} {l1 l2 : List bk_E} {it' tr' : Nat → Int32} (hr : r < 16) (hA : A (3 + r) = l1 ++ p :: l2)
    (hX : ∀ z, z < 104 → nI z ≠ p.1 → it' z = it z) (hY : ∀ z, z < 112 → z ≠ p.2.1 → tr' z = tr z) :
    bk_C B (bk_set A (3 + r) (l1 ++ l2)) g st ol th pl md cr lr gv ib (bk_fre il p.1) it' qi qc ta (upd wh p.2.1 (-1)) od tg tr' so bd fr en := by
  obtain ⟨h1', h2, h3, h4, h5, h6⟩ := h
  have hp : p ∈ A (3 + r) := by rw [hA]; exact List.mem_append_right l1 List.mem_cons_self
  have k1 := bk_rm h1' (by omega) hA
  have k2 := bk_frame (it' := it') (ib' := ib) (od' := od) (tg' := tg) (tr' := tr') (so' := so) (bd' := bd) (g' := g) (fr' := fr.toInt) (en' := en.toInt) k1
    (fun z hz hzi => by
      refine ⟨hX z hz (fun e => hzi ?_), fun _ _ => rfl⟩
      unfold bk_fre
      rw [if_neg (by rw [← e]; exact bk_nm1 (by omega)), ← e, nI_clamp (by omega)]
      exact pk_us) (fun z hz hzw => by
      have ne : z ≠ p.2.1 := fun e => hzw (by rw [e]; exact pk_us)
      exact ⟨rfl, rfl, hY z hz ne, rfl, fun _ _ => rfl⟩) (fun _ => Nat.le_refl _) (Int.le_refl _) (Int.le_refl _)
  exact ⟨k2, bk_RQ_ring h2 (by omega) _, dk_G1r h3 hA, h4, h5, h6⟩
/-- an entry of ring r comes back to the front of queue t -/
theorem dk_back (h : bk_C B A g st ol th pl md cr lr gv ib il it qi qc ta wh od tg tr so bd fr en) (hB : B ≤ 100000000) {r t k : Nat} {p : bk_E} {l1 l2 : List bk_E} {it' tr' : Nat → Int32} (hr : r < 16) (hA : A (3 + r) = l1 ++ p :: l2) (ht : t < 3) (hp : pl r = nI t) (h8 : (A t).length < 8)
    (hX : ∀ z, z < 104 → nI z ≠ p.1 → it' z = it z) (hY : ∀ z, z < 112 → z ≠ p.2.1 → tr' z = tr z) (hk : k ≤ 2) (hx : ∀ q, p.1 = nI q → q < 104 → it' q = nI k) (hy : tr' p.2.1 = nI k) :
    bk_C (B + 1) (bk_set (bk_set A (3 + r) (l1 ++ l2)) t (p :: A t)) g st ol th pl md cr lr gv ib il it' (bk_shr qi (t * 8) (A t).length p.1) (upd qc t (nI ((A t).length + 1))) ta (upd wh p.2.1 (nI t)) (upd od p.2.1 (fr - 1)) tg tr' so bd (fr - 1) en := by
  have h0 := dk_drop h hr hA hX hY
  have hl := dk_len h0
  obtain ⟨k1, k2, k3, k4, k5, k6⟩ := h0
  obtain ⟨h1', h2, h3, h4, h5, h6⟩ := h
  have hpm : p ∈ A (3 + r) := by rw [hA]; exact List.mem_append_right l1 List.mem_cons_self
  have dec := dk_dec (x := fr) h6.1 h6.2.1 hB
  have c0 := h1'.1 (3 + r) p (by omega) hpm
  have qu : bk_Qu pl (3 + r) := by
    right
    rw [show 3 + r - 3 = r by omega, hp]
    exact nI_lt (b := 3) (by omega) (by omega)
  rcases c0.2.2.1 with ⟨_, q, n, tt, o1, o2, o3, o4, o5, o6, o7, o8, o9, o10⟩ | ⟨x, _⟩
  rotate_left
  · exact absurd qu x
  obtain ⟨f1, f2, f3⟩ := dk_fre (il := il) o1 o2 o6
  have j2 := bk_frame (it' := it') (ib' := ib) (od' := upd od p.2.1 (fr - 1)) (tg' := tg) (tr' := tr') (so' := so) (bd' := bd) (g' := g) (fr' := (fr - 1).toInt) (en' := en.toInt) k1
    (fun z hz hzi => ⟨rfl, fun _ _ => rfl⟩) (fun z hz hzw => by
      have ne : z ≠ p.2.1 := fun e => hzw (by rw [e]; exact pk_us)
      exact ⟨pk_un ne, rfl, rfl, rfl, fun _ _ => rfl⟩) (fun _ => Nat.le_refl _) (by omega) (Int.le_refl _)
  have e3 : bk_set A (3 + r) (l1 ++ l2) t = A t := bk_set_n (by omega)
  have old : ∀ M q', M < 19 → q' ∈ bk_set A (3 + r) (l1 ++ l2) M → fr.toInt ≤ ((upd od p.2.1 (fr - 1)) q'.2.1).toInt := by
    intro M q' hM hq'
    have w := (k1.1 M q' hM hq')
    have ne : q'.2.1 ≠ p.2.1 := by
      intro e
      have w2 := w.2.1
      rw [e, pk_us] at w2
      exact bk_nm1 (by omega) w2.symm
    rw [pk_un ne]
    exact w.2.2.2.1
  have new : ((upd od p.2.1 (fr - 1)) p.2.1).toInt = fr.toInt - 1 := by rw [pk_us, dec]
  have j3 := bk_ins (L := t) (p := p) (l' := p :: A t) (il' := il) (g' := g) j2 (by omega)
    (fun q' => by rw [e3, List.mem_cons])
    (by
      rw [List.pairwise_cons]
      refine ⟨?_, by have := j2.2.1 t (by omega); rw [e3] at this; exact this⟩
      intro b' hb'
      have := old t b' (by omega) (by rw [e3]; exact hb')
      omega)
    ⟨fun _ => by rw [List.length_cons]; omega, fun x => by omega⟩ c0.1 pk_us
    (Or.inl ⟨Or.inl ht, q, n, k, o1, o2, f3, f1.symm, o3, o4, hk, o7, hx q o2 o1, hy, o10⟩)
    (by have := k6; omega) (fun _ => Nat.le_refl _) (fun r' e => by omega) (fun r' r'' q' e => by omega)
  rw [bk_uu] at j3
  refine ⟨j3, ?_, dk_G1q k3 ht _, fun s hs => by
    obtain ⟨a, b, c, d⟩ := h4 s hs
    exact ⟨a, b, by omega, d⟩, h5, by omega⟩
  have w := bk_RQ_front (p := p) k2 hl ht (by rw [e3]; exact h8)
  rw [e3] at w
  exact w
theorem dk_unsub (h : bk_C B A g st ol th pl md cr lr gv ib il it qi qc ta wh od tg tr so bd fr en) {r : Nat} (hA : A (3 + r) = []) : bk_C B A g st ol (upd th r 0) pl md cr lr gv ib il it qi qc ta wh od tg tr so bd fr en := by
  obtain ⟨h1', h2, h3, h4, h5, h6⟩ := h
  refine ⟨h1', h2, fun z hz => ?_, h4, h5, h6⟩
  unfold bk_G1
  by_cases e : z = r
  · subst e; rw [pk_us]; exact Or.inl ⟨rfl, hA⟩
  · rw [pk_un e]; exact h3 z hz
theorem dk_sub (h : bk_C B A g st ol th pl md cr lr gv ib il it qi qc ta wh od tg tr so bd fr en) {r t m c : Nat} (hA : A (3 + r) = []) (ht : t < 6) (hm : m < 3) (hc1 : 1 ≤ c) (hc5 : c ≤ 5) :
    bk_C B A g st ol (upd th r 1) (upd pl r (nI t)) (upd md r (nI m)) (upd cr r (nI c)) lr gv ib il it qi qc ta wh od tg tr so bd fr en := by
  obtain ⟨h1', h2, h3, h4, h5, h6⟩ := h
  refine ⟨bk_pl h1' hA _, h2, fun z hz => ?_, h4, h5, h6⟩
  unfold bk_G1
  by_cases e : z = r
  · subst e
    rw [pk_us, pk_us, pk_us, pk_us]
    refine Or.inr ⟨rfl, t, m, c, rfl, ht, rfl, hm, rfl, hc1, hc5, fun _ => hA, ?_⟩
    rw [hA]
    exact Nat.zero_le _
  · rw [pk_un e, pk_un e, pk_un e, pk_un e]; exact h3 z hz
theorem dk_st (h : bk_C B A g st ol th pl md cr lr gv ib il it qi qc ta wh od tg tr so bd fr en) {s a : Nat} (ha : a ≤ 2) : bk_C B A g (upd st s (nI a)) ol th pl md cr lr gv ib il it qi qc ta wh od tg tr so bd fr en := by
  obtain ⟨h1', h2, h3, h4, h5, h6⟩ := h
  refine ⟨h1', h2, h3, fun z hz => ?_, h5, h6⟩
  obtain ⟨a1, a2, a3, a4, a5⟩ := h4 z hz
  refine ⟨a1, a2, a3, a4, ?_⟩
  by_cases e : z = s
  · subst e; exact ⟨a, ha, pk_us⟩
  · rw [pk_un e]; exact a5
theorem dk_ol (h : bk_C B A g st ol th pl md cr lr gv ib il it qi qc ta wh od tg tr so bd fr en) {s a : Nat} (ha : a ≤ 240) : bk_C B A g st (upd ol s (nI a)) th pl md cr lr gv ib il it qi qc ta wh od tg tr so bd fr en := by
  obtain ⟨h1', h2, h3, h4, h5, h6⟩ := h
  refine ⟨h1', h2, h3, fun z hz => ?_, h5, h6⟩
  obtain ⟨a1, a2, a3, a4, a5⟩ := h4 z hz
  refine ⟨a1, a2, a3, ?_, a5⟩
  by_cases e : z = s
  · subst e; exact ⟨a, ha, pk_us⟩
  · rw [pk_un e]; exact a4
/-- a session without holds begins its tags anew -/
theorem dk_zero (h : bk_C B A g st ol th pl md cr lr gv ib il it qi qc ta wh od tg tr so bd fr en) {s : Nat} (hA : ∀ r, r < 16 → r / 4 = s → A (3 + r) = []) : bk_C B A (fun z => if z = s then 0 else g z) st ol th pl md cr lr (upd gv s 0) ib il it qi qc (upd ta s 0) wh od tg tr so bd fr en := by
  obtain ⟨⟨c1, c2, c3, c4, c5, c6, c7, c8⟩, h2, h3, h4, h5, h6⟩ := h
  refine ⟨⟨c1, c2, c3, c4, c5, c6, fun r p hr hp => ?_, c8⟩, h2, h3, fun z hz => ?_, h5, h6⟩
  · by_cases e : r / 4 = s
    · rw [hA r hr e] at hp; exact absurd hp List.not_mem_nil
    · show p.2.2 < (if r / 4 = s then 0 else g (r / 4)) ∧ _
      rw [if_neg e]
      exact c7 r p hr hp
  · obtain ⟨a1, a2, a3, a4, a5⟩ := h4 z hz
    unfold bk_G2
    dsimp only
    by_cases e : z = s
    · subst e
      rw [pk_us, pk_us, if_pos rfl]
      exact ⟨rfl, rfl, Nat.zero_le _, a4, a5⟩
    · rw [pk_un e, pk_un e, if_neg e]
      exact ⟨a1, a2, a3, a4, a5⟩
end DESK
end
section
/-! which hold is meant: X looks through its rows, Y through all items -/
def bk_XB (A : Nat → List bk_E) (n : Nat) (V : Nat → Nat → Prop) (o : Int32) : Prop :=
  (o = -1 ∧ ∀ r i p, V r i → (A (3 + r))[i]? = some p → p.2.2 % 256 ≠ n) ∨
  ∃ r i p, V r i ∧ (A (3 + r))[i]? = some p ∧ o = nI (r * 5 + i) ∧ p.2.2 % 256 = n ∧ ∀ r' i' p', V r' i' → (A (3 + r'))[i']? = some p' → p'.2.2 % 256 = n → p.2.2 ≤ p'.2.2
section XB
variable {A : Nat → List bk_E} {n : Nat} {V W : Nat → Nat → Prop} {o : Int32} {r0 i0 : Nat} {p0 : bk_E}
theorem xb_0 (h : ∀ r i, ¬ V r i) : bk_XB A n V (-1) := Or.inl ⟨rfl, fun r i _ v _ => absurd v (h r i)⟩
theorem xb_ext (h : bk_XB A n V o) (e : ∀ r i p, (A (3 + r))[i]? = some p → (V r i ↔ W r i)) : bk_XB A n W o := by
  rcases h with ⟨a, b⟩ | ⟨r, i, p, a, b, c, d, f⟩
  · exact Or.inl ⟨a, fun r i p v q => b r i p ((e r i p q).mpr v) q⟩
  · exact Or.inr ⟨r, i, p, (e r i p b).mp a, b, c, d, fun r' i' p' v q => f r' i' p' ((e r' i' p' q).mpr v) q⟩
theorem xb_no (h : bk_XB A n V o) (hp : (A (3 + r0))[i0]? = some p0) (hn : p0.2.2 % 256 ≠ n) (e : ∀ r i, W r i ↔ (V r i ∨ (r = r0 ∧ i = i0))) : bk_XB A n W o := by
  rcases h with ⟨a, b⟩ | ⟨r, i, p, a, b, c, d, f⟩
  · refine Or.inl ⟨a, fun r i p v q => ?_⟩
    rcases (e r i).mp v with v | ⟨rfl, rfl⟩
    · exact b r i p v q
    · rw [hp] at q; cases q; exact hn
  · refine Or.inr ⟨r, i, p, (e r i).mpr (Or.inl a), b, c, d, fun r' i' p' v q z => ?_⟩
    rcases (e r' i').mp v with v | ⟨rfl, rfl⟩
    · exact f r' i' p' v q z
    · rw [hp] at q; cases q; exact absurd z hn
theorem xb_new (h : bk_XB A n V (-1)) (hp : (A (3 + r0))[i0]? = some p0) (hn : p0.2.2 % 256 = n) (e : ∀ r i, W r i ↔ (V r i ∨ (r = r0 ∧ i = i0))) (hV : ∀ r i, V r i → r * 5 + i < 2 ^ 31) : bk_XB A n W (nI (r0 * 5 + i0)) := by
  rcases h with ⟨_, b⟩ | ⟨r, i, p, a, b, c, d, f⟩
  · refine Or.inr ⟨r0, i0, p0, (e r0 i0).mpr (Or.inr ⟨rfl, rfl⟩), hp, rfl, hn, fun r' i' p' v q z => ?_⟩
    rcases (e r' i').mp v with v | ⟨rfl, rfl⟩
    · exact absurd z (b r' i' p' v q)
    · rw [hp] at q; cases q; exact Nat.le_refl _
  · exact absurd c.symm (bk_nm1 (hV r i a))
theorem xb_at (h : bk_XB A n V o) (ho : ¬ o < 0) : ∃ r i p, V r i ∧ (A (3 + r))[i]? = some p ∧ o = nI (r * 5 + i) ∧ p.2.2 % 256 = n ∧ ∀ r' i' p', V r' i' → (A (3 + r'))[i']? = some p' → p'.2.2 % 256 = n → p.2.2 ≤ p'.2.2 := by
  rcases h with ⟨a, b⟩ | h
  · rw [a] at ho; exact absurd bk_m1lt ho
  · exact h
theorem xb_lt {r i : Nat} {p : bk_E} (f : ∀ r' i' p', V r' i' → (A (3 + r'))[i']? = some p' → p'.2.2 % 256 = n → p.2.2 ≤ p'.2.2) (hp : (A (3 + r0))[i0]? = some p0) (hn : p0.2.2 % 256 = n) (lt : p0.2.2 < p.2.2) (e : ∀ r i, W r i ↔ (V r i ∨ (r = r0 ∧ i = i0))) : bk_XB A n W (nI (r0 * 5 + i0)) := by
  refine Or.inr ⟨r0, i0, p0, (e r0 i0).mpr (Or.inr ⟨rfl, rfl⟩), hp, rfl, hn, fun r' i' p' v q z => ?_⟩
  rcases (e r' i').mp v with v | ⟨rfl, rfl⟩
  · have := f r' i' p' v q z; omega
  · rw [hp] at q; cases q; exact Nat.le_refl _
theorem xb_ge {r i : Nat} {p : bk_E} (a : V r i) (b : (A (3 + r))[i]? = some p) (d : p.2.2 % 256 = n) (f : ∀ r' i' p', V r' i' → (A (3 + r'))[i']? = some p' → p'.2.2 % 256 = n → p.2.2 ≤ p'.2.2) (hp : (A (3 + r0))[i0]? = some p0) (ge : p.2.2 ≤ p0.2.2) (e : ∀ r i, W r i ↔ (V r i ∨ (r = r0 ∧ i = i0))) : bk_XB A n W (nI (r * 5 + i)) := by
  refine Or.inr ⟨r, i, p, (e r i).mpr (Or.inl a), b, rfl, d, fun r' i' p' v q z => ?_⟩
  rcases (e r' i').mp v with v | ⟨rfl, rfl⟩
  · exact f r' i' p' v q z
  · rw [hp] at q; cases q; exact ge
theorem bk_split {l : List bk_E} {i : Nat} {p : bk_E} (h : l[i]? = some p) : ∃ l1 l2, l = l1 ++ p :: l2 ∧ l1.length = i := by
  obtain ⟨hi, e⟩ := List.getElem?_eq_some_iff.mp h
  refine ⟨l.take i, l.drop (i + 1), ?_, by rw [List.length_take]; omega⟩
  rw [← e, List.getElem_cons_drop, List.take_append_drop]
end XB
section ANS
variable {A : Nat → List bk_E} {il it ib wh od tg tr so bd pl : Nat → Int32} {g : Nat → Nat} {fr en : Int}
theorem bk_ans (h : bk_Con A il it ib wh od tg tr so bd pl g fr en) {s n : Nat} {b o : Int32} (hs : s < 4) (hn : n < 256)
    (hY : bk_Best (fun j => nI (3 + 4 * s) ≤ wh j ∧ wh j < nI (3 + 4 * s + 4) ∧ tg j = nI n) (fun j => (od j).toInt) 112 b)
    (hX : bk_XB A n (fun r _ => r / 4 = s ∧ r < 16) o) :
    (b = -1 ∧ o = -1) ∨ ∃ r l1 p l2, r < 16 ∧ r / 4 = s ∧ A (3 + r) = l1 ++ p :: l2 ∧ b = nI p.2.1 ∧ o = nI (r * 5 + l1.length) := by
  have back : ∀ j, j < 112 → (nI (3 + 4 * s) ≤ wh j ∧ wh j < nI (3 + 4 * s + 4) ∧ tg j = nI n) → ∃ r p, r < 16 ∧ r / 4 = s ∧ p ∈ A (3 + r) ∧ p.2.1 = j ∧ p.2.2 % 256 = n := by
    rintro j hj ⟨a, b, c⟩
    rcases h.2.2.1 j hj with w | ⟨L, p, hL, hp, rfl⟩
    · rw [w, Int32.le_iff_toInt_le, nI_toInt (by omega), show (-1 : Int32).toInt = -1 from by decide] at a
      omega
    · rw [(h.1 L p hL hp).2.1, nI_leI (by omega) (by omega)] at a
      rw [(h.1 L p hL hp).2.1, nI_ltI (by omega) (by omega)] at b
      obtain ⟨r, rfl⟩ : ∃ r, L = 3 + r := ⟨L - 3, by omega⟩
      have w := (h.2.2.2.2.2.2.1 r p (by omega) hp).2
      rw [w] at c
      exact ⟨r, p, by omega, by omega, hp, rfl, (nI_eq (by omega) (by omega)).mp c⟩
  have forth : ∀ r p, r < 16 → r / 4 = s → p ∈ A (3 + r) → p.2.2 % 256 = n → p.2.1 < 112 ∧ (nI (3 + 4 * s) ≤ wh p.2.1 ∧ wh p.2.1 < nI (3 + 4 * s + 4) ∧ tg p.2.1 = nI n) := by
    intro r p hr hrs hp e
    have w := h.1 (3 + r) p (by omega) hp
    refine ⟨w.1, ?_, ?_, ?_⟩
    · rw [w.2.1]; exact nI_le (by omega) (by omega)
    · rw [w.2.1]; exact nI_lt (by omega) (by omega)
    · rw [(h.2.2.2.2.2.2.1 r p hr hp).2, e]
  rcases hX with ⟨hx, no⟩ | ⟨r, i, p, ⟨hrs, hr⟩, hp, hx, hpn, least⟩
  · left
    refine ⟨bk_best_none hY ?_, hx⟩
    intro j hj pj
    obtain ⟨r, p, hr, hrs, hp, _, e⟩ := back j hj pj
    obtain ⟨i, hi, e'⟩ := List.getElem_of_mem hp
    exact no r i p ⟨hrs, hr⟩ (List.getElem?_eq_some_iff.mpr ⟨hi, e'⟩) e
  · right
    obtain ⟨l1, l2, hA, hl⟩ := bk_split hp
    have hpm : p ∈ A (3 + r) := by rw [hA]; exact List.mem_append_right l1 List.mem_cons_self
    refine ⟨r, l1, p, l2, hr, hrs, hA, ?_, by rw [hl]; exact hx⟩
    obtain ⟨f1, f2⟩ := forth r p hr hrs hpm hpn
    refine bk_best_uniq hY f1 f2 ?_
    intro j hj pj ne
    obtain ⟨r', p', hr', hrs', hp', ej, e⟩ := back j hj pj
    obtain ⟨i', hi', e'⟩ := List.getElem_of_mem hp'
    have le := least r' i' p' ⟨hrs', hr'⟩ (List.getElem?_eq_some_iff.mpr ⟨hi', e'⟩) e
    have w := h.2.2.2.2.2.2.2 r r' p p' hr hr' (by omega) hpm hp'
    rw [← ej]
    refine w.1.mp ?_
    by_cases q : p.2.2 = p'.2.2
    · exact absurd ((w.2 q).symm.trans rfl) (by rw [ej]; exact fun z => ne z)
    · omega
theorem bk_best_ex (P : Nat → Prop) (key : Nat → Int) : ∀ i, i < 2 ^ 31 → ∃ b, bk_Best P key i b
  | 0, _ => ⟨-1, bk_best0⟩
  | i + 1, hi => by
    obtain ⟨b, hb⟩ := bk_best_ex P key i (by omega)
    by_cases p : P i
    · by_cases n : b < 0
      · exact ⟨nI i, bk_best_new (by omega) hb p n⟩
      · obtain ⟨c, hc, rfl⟩ := bk_best_at hb n
        by_cases lt : key i < key c
        · exact ⟨nI i, bk_best_lt (by omega) hc hb p lt⟩
        · exact ⟨nI c, bk_best_ge (by omega) hc hb (by omega)⟩
    · exact ⟨b, bk_best_no hb p⟩
theorem bk_pos (f : bk_E → Int) {p : bk_E} {l2 l2' : List bk_E} : ∀ (l1 l1' : List bk_E), (l1 ++ p :: l2).Pairwise (fun a b => f a < f b) → l1 ++ p :: l2 = l1' ++ p :: l2' → l1 = l1'
  | [], [], _, _ => rfl
  | [], a :: t, h, e => by
    rw [List.nil_append, List.cons_append] at e
    rw [List.nil_append, List.pairwise_cons] at h
    injection e with e1 e2
    have : p ∈ l2 := by rw [e2]; exact List.mem_append_right _ List.mem_cons_self
    have := h.1 p this
    omega
  | a :: t, [], h, e => by
    rw [List.nil_append, List.cons_append] at e
    rw [List.cons_append, List.pairwise_cons] at h
    injection e with e1 e2
    have := h.1 p (List.mem_append_right _ List.mem_cons_self)
    rw [e1] at this
    omega
  | a :: t, a' :: t', h, e => by
    rw [List.cons_append, List.cons_append] at e
    rw [List.cons_append, List.pairwise_cons] at h
    injection e with e1 e2
    rw [e1, bk_pos f t t' h.2 e2]
theorem bk_ans_ex (h : bk_Con A il it ib wh od tg tr so bd pl g fr en) {s n : Nat} (hs : s < 4) (hn : n < 256) :
    ∃ b o, bk_Best (fun j => nI (3 + 4 * s) ≤ wh j ∧ wh j < nI (3 + 4 * s + 4) ∧ tg j = nI n) (fun j => (od j).toInt) 112 b ∧ bk_XB A n (fun r _ => r / 4 = s ∧ r < 16) o := by
  obtain ⟨b, hY⟩ := bk_best_ex (fun j => nI (3 + 4 * s) ≤ wh j ∧ wh j < nI (3 + 4 * s + 4) ∧ tg j = nI n) (fun j => (od j).toInt) 112 (by omega)
  have forth : ∀ r p, r < 16 → r / 4 = s → p ∈ A (3 + r) → p.2.2 % 256 = n → p.2.1 < 112 ∧ (nI (3 + 4 * s) ≤ wh p.2.1 ∧ wh p.2.1 < nI (3 + 4 * s + 4) ∧ tg p.2.1 = nI n) := by
    intro r p hr hrs hp e
    have w := h.1 (3 + r) p (by omega) hp
    refine ⟨w.1, ?_, ?_, ?_⟩
    · rw [w.2.1]; exact nI_le (by omega) (by omega)
    · rw [w.2.1]; exact nI_lt (by omega) (by omega)
    · rw [(h.2.2.2.2.2.2.1 r p hr hp).2, e]
  rcases hY' : hY with ⟨_, no⟩ | ⟨c, hc, hb, ⟨a1, a2, a3⟩, least⟩
  · refine ⟨b, -1, hY, Or.inl ⟨rfl, fun r i p v q e => ?_⟩⟩
    obtain ⟨f1, f2⟩ := forth r p v.2 v.1 (List.mem_of_getElem? q) e
    exact no _ f1 f2
  · rcases h.2.2.1 c hc with w | ⟨L, p, hL, hp, rfl⟩
    · rw [w, Int32.le_iff_toInt_le, nI_toInt (by omega), show (-1 : Int32).toInt = -1 from by decide] at a1
      omega
    · rw [(h.1 L p hL hp).2.1, nI_leI (by omega) (by omega)] at a1
      rw [(h.1 L p hL hp).2.1, nI_ltI (by omega) (by omega)] at a2
      obtain ⟨r, rfl⟩ : ∃ r, L = 3 + r := ⟨L - 3, by omega⟩
      have w := (h.2.2.2.2.2.2.1 r p (by omega) hp).2
      rw [w] at a3
      have pn : p.2.2 % 256 = n := (nI_eq (by omega) (by omega)).mp a3
      obtain ⟨i, hi, e'⟩ := List.getElem_of_mem hp
      refine ⟨b, nI (r * 5 + i), hY, Or.inr ⟨r, i, p, ⟨by omega, by omega⟩, List.getElem?_eq_some_iff.mpr ⟨hi, e'⟩, rfl, pn, fun r' i' p' v q e => ?_⟩⟩
      have hp' := List.mem_of_getElem? q
      obtain ⟨f1, f2⟩ := forth r' p' v.2 v.1 hp' e
      have le : (od p.2.1).toInt ≤ (od p'.2.1).toInt := least _ f1 f2
      have o := (h.2.2.2.2.2.2.2 r' r p' p v.2 (by omega) (by omega) hp' hp).1
      apply Nat.le_of_not_lt
      intro x
      have := o.mp x
      omega
end ANS
end
section
/-! frames that come, commands that are kept -/
def bk_Mi (mi pt pd : Nat → Int32) (s : Nat) : Prop := (mi s = 0 ∧ pt s = 0) ∨ (mi s = 1 ∧ pt s = 1 ∧ pd s = 0) ∨ (mi s = 2 ∧ pt s = 1 ∧ pd s = 1)
def bk_F1 (xp fh fl fa mi yp ki le go la ps pd pt : Nat → Int32) (s z : Nat) : Prop :=
  (xp s = 0 ∧ yp s = 0 ∧ bk_Mi mi pt pd s) ∨
  ∃ b o : Nat, b < 256 ∧ o = b % 16 ∧ fh s = nI b ∧ ki s = nI o ∧ la s = (if b < 128 then 0 else 1) ∧ ps s = (if b / 64 % 2 = 0 then 0 else 1) ∧
    ((o = 1 ∧ pt s = 0 ∧ mi s = (if b / 64 % 2 = 0 then 1 else 2)) ∨ (o = 0 ∧ pt s = 1 ∧ bk_Mi mi pt pd s) ∨ (8 ≤ o ∧ o ≤ 10 ∧ 128 ≤ b ∧ bk_Mi mi pt pd s)) ∧
    ((xp s = 1 ∧ yp s = 1) ∨
     (xp s = 2 ∧ o < 8 ∧ ((fa s = 0 ∧ fl s = 0 ∧ yp s = 2) ∨ (fa s = 1 ∧ yp s = 3 ∧ ∃ h, h < 256 ∧ fl s = nI h ∧ le s = nI (256 * h)))) ∨
     ∃ n : Nat, n ≤ 200 ∧ (8 ≤ o → n ≤ 16) ∧ fl s = nI n ∧ le s = nI n ∧
       ((xp s = 3 ∧ (o < 8 → z + n ≤ 200) ∧ ∃ a, a < 4 ∧ fa s = nI a ∧ yp s = nI (4 + a) ∧ go s = 0) ∨
        (xp s = 4 ∧ yp s = 8 ∧ ∃ a, a < n ∧ fa s = nI a ∧ go s = nI a ∧ (o < 8 → z + (n - a) ≤ 200))))
def bk_F (ml xp fh fl fa mi yp ki le go la ps pd pt : Nat → Int32) (s : Nat) : Prop := ∃ z, z ≤ 200 ∧ ml s = nI z ∧ bk_F1 xp fh fl fa mi yp ki le go la ps pd pt s z
/-- what is kept in X's place p and Y's place q: command w, place or tag a, transaction x, a body of n bytes -/
def bk_K1 (kb kl kw kh kf kz ky : Nat → Int32) (p q w a x n : Nat) : Prop :=
  ((w = 3 ∧ a < 6 ∧ 1 ≤ n ∧ n ≤ 16) ∨ ((w = 4 ∨ w = 5) ∧ a < 256 ∧ n = 0)) ∧ (x = 1 ∨ x = 2) ∧
  kb (p * 19) = nI w ∧ kb (p * 19 + 1) = nI a ∧ kb (p * 19 + 2) = nI x ∧ kl p = nI (n + 3) ∧
  kw q = nI w ∧ kh q = nI a ∧ kf q = nI x ∧ kz q = nI n ∧ ∀ j, j < n → kb (p * 19 + 3 + j) = ky (16 * q + j)
def bk_K (kc kb kl kw kh kf kz ky : Nat → Int32) (s : Nat) : Prop :=
  ∃ c, c ≤ 6 ∧ kc s = nI c ∧ ∀ i, i < c → ∃ w a x n, bk_K1 kb kl kw kh kf kz ky (s * 7 + i) (6 * s + i) w a x n
end
section
/-! scans of the items -/
section SCAN
variable {B : Nat} {A : Nat → List bk_E} {g : Nat → Nat} {st lf cd bg gv ob ol pb pn xp fh fl fa mk cb mi mb ml pa kb kl kc th pl md cr hc hg hi ib il it qi qc gc lc lr co ta yp ki le go la ps pd pt kw kh kf kz ky wh od tg tr so bd wo be : Nat → Int32} {px fr en ma wr : Int32}
theorem yk_count4 {post : Int32 → Prop} {x1 : Int32} (hp : post (nI (bk_cnt wh x1 112))) : ∀ f i c : Nat, i ≤ 112 → 112 - i < f → c = bk_cnt wh x1 i → wY_count_4 post x1 fr en ma wr st lf cd ta bg kc ob ol pb pn yp ki le go mk cb mb ml la ps pd pt kw kh kf kz ky th pl md cr gc lc lr wh od tg tr so bd wo be f (nI c) (nI i)
  | 0, i, c, h1, h2, _ => by omega
  | f + 1, i, c, h1, h2, hc => by
    have cl : (nI i).toNatClampNeg = i := nI_clamp (by omega)
    have le := bk_cnt_le wh x1 i
    refine pk_le 112 i (fun h => ?_) (fun h => ⟨pk_in i 112 h, ?_⟩)
    · have e : i = 112 := by omega
      subst e
      rw [hc]
      exact hp
    · rw [cl]
      by_cases e : wh i = x1
      · refine br_t e (nm_r (nI_1 c) (nm_r (nI_1 i) (yk_count4 hp f (i + 1) (c + 1) (by omega) (by omega) ?_)))
        rw [hc]
        show bk_cnt wh x1 i + 1 = bk_cnt wh x1 i + (if wh i = x1 then 1 else 0)
        rw [if_pos e]
      · refine br_f e (nm_r (nI_1 i) (yk_count4 hp f (i + 1) c (by omega) (by omega) ?_))
        rw [hc, bk_cnt, if_neg e]
        rfl
theorem yk_count {post : Int32 → Prop} {x1 : Int32} (hp : post (nI (bk_cnt wh x1 112))) : wpY_count post (fr, en, ma, wr, st, lf, cd, ta, bg, kc, ob, ol, pb, pn, yp, ki, le, go, mk, cb, mb, ml, la, ps, pd, pt, kw, kh, kf, kz, ky, th, pl, md, cr, gc, lc, lr, wh, od, tg, tr, so, bd, wo, be) x1 :=
  ⟨113, yk_count4 hp 113 0 0 (by omega) (by omega) rfl⟩
theorem yk_after5 {post : Int32 → Prop} {x1 x2 : Int32} (hp : ∀ b, bk_Best (fun j => wh j = x1 ∧ x2 < od j) (fun j => (od j).toInt) 112 b → post b) :
    ∀ (f i : Nat) (b : Int32), i ≤ 112 → 112 - i < f → bk_Best (fun j => wh j = x1 ∧ x2 < od j) (fun j => (od j).toInt) i b → wY_after_5 post x1 x2 fr en ma wr st lf cd ta bg kc ob ol pb pn yp ki le go mk cb mb ml la ps pd pt kw kh kf kz ky th pl md cr gc lc lr wh od tg tr so bd wo be f b (nI i)
  | 0, i, b, h1, h2, _ => by omega
  | f + 1, i, b, h1, h2, hb => by
    have cl : (nI i).toNatClampNeg = i := nI_clamp (by omega)
    refine pk_le 112 i (fun h => ?_) (fun h => ⟨pk_in i 112 h, ?_⟩)
    · have e : i = 112 := by omega
      subst e
      exact hp b hb
    · rw [cl]
      by_cases e : wh i = x1
      · refine br_t e ⟨pk_in i 112 h, ?_⟩
        by_cases o : od i ≤ x2
        · exact br_t o (nm_r (nI_1 i) (yk_after5 hp f (i + 1) b (by omega) (by omega) (bk_best_no hb (fun z => Int32.not_lt.mpr o z.2))))
        · have o' : x2 < od i := Int32.not_le.mp o
          refine br_f o ?_
          by_cases n : b < 0
          · exact br_t n (nm_r (nI_1 i) (yk_after5 hp f (i + 1) (nI i) (by omega) (by omega) (bk_best_new (by omega) hb ⟨e, o'⟩ n)))
          · obtain ⟨c, hc, rfl⟩ := bk_best_at hb n
            refine br_f n ⟨pk_in i 112 h, pk_in c 112 (by omega), ?_⟩
            rw [nI_clamp (show c < 2 ^ 31 by omega)]
            by_cases q : od c ≤ od i
            · exact br_t q (nm_r (nI_1 i) (yk_after5 hp f (i + 1) (nI c) (by omega) (by omega) (bk_best_ge (by omega) hc hb (Int32.le_iff_toInt_le.mp q))))
            · exact br_f q (nm_r (nI_1 i) (yk_after5 hp f (i + 1) (nI i) (by omega) (by omega) (bk_best_lt (by omega) hc hb ⟨e, o'⟩ (Int32.lt_iff_toInt_lt.mp (Int32.not_le.mp q)))))
      · exact br_f e (nm_r (nI_1 i) (yk_after5 hp f (i + 1) b (by omega) (by omega) (bk_best_no hb (fun z => e z.1))))
theorem yk_after {post : Int32 → Prop} {x1 x2 : Int32} (hp : ∀ b, bk_Best (fun j => wh j = x1 ∧ x2 < od j) (fun j => (od j).toInt) 112 b → post b) : wpY_after post (fr, en, ma, wr, st, lf, cd, ta, bg, kc, ob, ol, pb, pn, yp, ki, le, go, mk, cb, mb, ml, la, ps, pd, pt, kw, kh, kf, kz, ky, th, pl, md, cr, gc, lc, lr, wh, od, tg, tr, so, bd, wo, be) x1 x2 :=
  ⟨113, yk_after5 hp 113 0 (-1) (by omega) (by omega) bk_best0⟩
theorem yk_newest4 {post : Int32 → Prop} {x1 : Int32} (hp : ∀ b, bk_Best (fun j => wh j = 3 + x1) (fun j => - (od j).toInt) 112 b → post b) :
    ∀ (f i : Nat) (b : Int32), i ≤ 112 → 112 - i < f → bk_Best (fun j => wh j = 3 + x1) (fun j => - (od j).toInt) i b → wY_newest_4 post x1 fr en ma wr st lf cd ta bg kc ob ol pb pn yp ki le go mk cb mb ml la ps pd pt kw kh kf kz ky th pl md cr gc lc lr wh od tg tr so bd wo be f b (nI i)
  | 0, i, b, h1, h2, _ => by omega
  | f + 1, i, b, h1, h2, hb => by
    have cl : (nI i).toNatClampNeg = i := nI_clamp (by omega)
    refine pk_le 112 i (fun h => ?_) (fun h => ⟨pk_in i 112 h, ?_⟩)
    · have e : i = 112 := by omega
      subst e
      exact hp b hb
    · rw [cl]
      by_cases e : wh i = 3 + x1
      · refine br_t e ?_
        by_cases n : b < 0
        · exact br_t n (nm_r (nI_1 i) (yk_newest4 hp f (i + 1) (nI i) (by omega) (by omega) (bk_best_new (by omega) hb e n)))
        · obtain ⟨c, hc, rfl⟩ := bk_best_at hb n
          refine br_f n ⟨pk_in i 112 h, pk_in c 112 (by omega), ?_⟩
          rw [nI_clamp (show c < 2 ^ 31 by omega)]
          by_cases q : od i ≤ od c
          · exact br_t q (nm_r (nI_1 i) (yk_newest4 hp f (i + 1) (nI c) (by omega) (by omega) (bk_best_ge (by omega) hc hb (by have := Int32.le_iff_toInt_le.mp q; omega))))
          · exact br_f q (nm_r (nI_1 i) (yk_newest4 hp f (i + 1) (nI i) (by omega) (by omega) (bk_best_lt (by omega) hc hb e (by have := Int32.lt_iff_toInt_lt.mp (Int32.not_le.mp q); omega))))
      · exact br_f e (nm_r (nI_1 i) (yk_newest4 hp f (i + 1) b (by omega) (by omega) (bk_best_no hb e)))
theorem yk_newest {post : Int32 → Prop} {x1 : Int32} (hp : ∀ b, bk_Best (fun j => wh j = 3 + x1) (fun j => - (od j).toInt) 112 b → post b) : wpY_newest post (fr, en, ma, wr, st, lf, cd, ta, bg, kc, ob, ol, pb, pn, yp, ki, le, go, mk, cb, mb, ml, la, ps, pd, pt, kw, kh, kf, kz, ky, th, pl, md, cr, gc, lc, lr, wh, od, tg, tr, so, bd, wo, be) x1 :=
  ⟨113, yk_newest4 hp 113 0 (-1) (by omega) (by omega) bk_best0⟩
theorem yk_below5 {post : Int32 → Prop} {x1 x2 : Int32} (hp : ∀ b, bk_Best (fun j => wh j = 3 + x1 ∧ od j < x2) (fun j => - (od j).toInt) 112 b → post b) :
    ∀ (f i : Nat) (b : Int32), i ≤ 112 → 112 - i < f → bk_Best (fun j => wh j = 3 + x1 ∧ od j < x2) (fun j => - (od j).toInt) i b → wY_below_5 post x1 x2 fr en ma wr st lf cd ta bg kc ob ol pb pn yp ki le go mk cb mb ml la ps pd pt kw kh kf kz ky th pl md cr gc lc lr wh od tg tr so bd wo be f b (nI i)
  | 0, i, b, h1, h2, _ => by omega
  | f + 1, i, b, h1, h2, hb => by
    have cl : (nI i).toNatClampNeg = i := nI_clamp (by omega)
    refine pk_le 112 i (fun h => ?_) (fun h => ⟨pk_in i 112 h, ?_⟩)
    · have e : i = 112 := by omega
      subst e
      exact hp b hb
    · rw [cl]
      by_cases e : wh i = 3 + x1
      · refine br_t e ⟨pk_in i 112 h, ?_⟩
        by_cases o : x2 ≤ od i
        · exact br_t o (nm_r (nI_1 i) (yk_below5 hp f (i + 1) b (by omega) (by omega) (bk_best_no hb (fun z => Int32.not_lt.mpr o z.2))))
        · have o' : od i < x2 := Int32.not_le.mp o
          refine br_f o ?_
          by_cases n : b < 0
          · exact br_t n (nm_r (nI_1 i) (yk_below5 hp f (i + 1) (nI i) (by omega) (by omega) (bk_best_new (by omega) hb ⟨e, o'⟩ n)))
          · obtain ⟨c, hc, rfl⟩ := bk_best_at hb n
            refine br_f n ⟨pk_in i 112 h, pk_in c 112 (by omega), ?_⟩
            rw [nI_clamp (show c < 2 ^ 31 by omega)]
            by_cases q : od i ≤ od c
            · exact br_t q (nm_r (nI_1 i) (yk_below5 hp f (i + 1) (nI c) (by omega) (by omega) (bk_best_ge (by omega) hc hb (by have := Int32.le_iff_toInt_le.mp q; omega))))
            · exact br_f q (nm_r (nI_1 i) (yk_below5 hp f (i + 1) (nI i) (by omega) (by omega) (bk_best_lt (by omega) hc hb ⟨e, o'⟩ (by have := Int32.lt_iff_toInt_lt.mp (Int32.not_le.mp q); omega))))
      · exact br_f e (nm_r (nI_1 i) (yk_below5 hp f (i + 1) b (by omega) (by omega) (bk_best_no hb (fun z => e z.1))))
theorem yk_below {post : Int32 → Prop} {x1 x2 : Int32} (hp : ∀ b, bk_Best (fun j => wh j = 3 + x1 ∧ od j < x2) (fun j => - (od j).toInt) 112 b → post b) : wpY_below post (fr, en, ma, wr, st, lf, cd, ta, bg, kc, ob, ol, pb, pn, yp, ki, le, go, mk, cb, mb, ml, la, ps, pd, pt, kw, kh, kf, kz, ky, th, pl, md, cr, gc, lc, lr, wh, od, tg, tr, so, bd, wo, be) x1 x2 :=
  ⟨113, yk_below5 hp 113 0 (-1) (by omega) (by omega) bk_best0⟩
/-! the same of the lists -/
theorem yk_countL {post : Int32 → Prop} {L : Nat} (h : bk_C B A g st ol th pl md cr lr gv ib il it qi qc ta wh od tg tr so bd fr en) (hL : L < 19) (hp : post (nI (A L).length)) : wpY_count post (fr, en, ma, wr, st, lf, cd, ta, bg, kc, ob, ol, pb, pn, yp, ki, le, go, mk, cb, mb, ml, la, ps, pd, pt, kw, kh, kf, kz, ky, th, pl, md, cr, gc, lc, lr, wh, od, tg, tr, so, bd, wo, be) (nI L) := by
  refine yk_count ?_
  rw [bk_count h.1 hL]
  exact hp
theorem yk_big {B : Nat} {x : Int32} (h : -(B : Int) ≤ x.toInt) (hB : B ≤ 100000000) : (-1000000000 : Int32).toInt < x.toInt := by
  have : (-1000000000 : Int32).toInt = -1000000000 := by decide
  omega
theorem yk_firstAt {post : Int32 → Prop} {L : Nat} (h : bk_C B A g st ol th pl md cr lr gv ib il it qi qc ta wh od tg tr so bd fr en) (hB : B ≤ 100000000) (hL : L < 19) (h0 : A L = [] → post (-1)) (h1 : ∀ p l, A L = p :: l → post (nI p.2.1)) : wpY_firstAt post (fr, en, ma, wr, st, lf, cd, ta, bg, kc, ob, ol, pb, pn, yp, ki, le, go, mk, cb, mb, ml, la, ps, pd, pt, kw, kh, kf, kz, ky, th, pl, md, cr, gc, lc, lr, wh, od, tg, tr, so, bd, wo, be) (nI L) := by
  unfold wpY_firstAt
  refine yk_after (fun b hb => ?_)
  have q2 : ∀ p, p ∈ A L → (-1000000000 : Int32).toInt < (od p.2.1).toInt := by
    intro p hp
    have w := (h.1.1 L p hL hp).2.2.2.1
    have w2 := h.2.2.2.2.2.1
    exact yk_big (B := B) (by omega) hB
  rcases bk_after h.1 hL (l1 := []) (l2 := A L) rfl (fun p hp => absurd hp List.not_mem_nil) q2 hb with ⟨e, rfl⟩ | ⟨p, l, e, rfl⟩
  · exact h0 e
  · exact h1 p l e
theorem yk_newestL {post : Int32 → Prop} {r : Nat} (h : bk_C B A g st ol th pl md cr lr gv ib il it qi qc ta wh od tg tr so bd fr en) (hr : r < 16) (h0 : A (3 + r) = [] → post (-1)) (h1 : ∀ p l, A (3 + r) = l ++ [p] → post (nI p.2.1)) : wpY_newest post (fr, en, ma, wr, st, lf, cd, ta, bg, kc, ob, ol, pb, pn, yp, ki, le, go, mk, cb, mb, ml, la, ps, pd, pt, kw, kh, kf, kz, ky, th, pl, md, cr, gc, lc, lr, wh, od, tg, tr, so, bd, wo, be) (nI r) := by
  refine yk_newest (fun b hb => ?_)
  have e3 : (3 : Int32) + nI r = nI (3 + r) := bn_add2 r 3
  rw [e3] at hb
  rcases bk_below h.1 (L := 3 + r) (by omega) (fun j => wh j = nI (3 + r)) (l1 := A (3 + r)) (l2 := []) (by rw [List.append_nil]) (fun _ z => z) (fun p hp => (h.1.1 _ p (by omega) hp).2.1) (fun p hp => absurd hp List.not_mem_nil) hb with ⟨e, rfl⟩ | ⟨p, l, e, rfl⟩
  · exact h0 e
  · exact h1 p l e
theorem yk_belowL {post : Int32 → Prop} {r : Nat} {T : Int32} {l1 l2 : List bk_E} (h : bk_C B A g st ol th pl md cr lr gv ib il it qi qc ta wh od tg tr so bd fr en) (hr : r < 16) (hA : A (3 + r) = l1 ++ l2) (q1 : ∀ p, p ∈ l1 → od p.2.1 < T) (q2 : ∀ p, p ∈ l2 → ¬ od p.2.1 < T) (h0 : l1 = [] → post (-1)) (h1 : ∀ p l, l1 = l ++ [p] → post (nI p.2.1)) : wpY_below post (fr, en, ma, wr, st, lf, cd, ta, bg, kc, ob, ol, pb, pn, yp, ki, le, go, mk, cb, mb, ml, la, ps, pd, pt, kw, kh, kf, kz, ky, th, pl, md, cr, gc, lc, lr, wh, od, tg, tr, so, bd, wo, be) (nI r) T := by
  refine yk_below (fun b hb => ?_)
  have e3 : (3 : Int32) + nI r = nI (3 + r) := bn_add2 r 3
  rw [e3] at hb
  rcases bk_below h.1 (L := 3 + r) (by omega) (fun j => wh j = nI (3 + r) ∧ od j < T) (l1 := l1) (l2 := l2) hA (fun _ z => z.1) (fun p hp => ⟨(h.1.1 _ p (by omega) (by rw [hA]; exact List.mem_append_left _ hp)).2.1, q1 p hp⟩) (fun p hp z => q2 p hp z.2) hb with ⟨e, rfl⟩ | ⟨p, l, e, rfl⟩
  · exact h0 e
  · exact h1 p l e
end SCAN
end
section
/-! what is written -/
def bk_wf (ob : Nat → Int32) (s a : Nat) (f : Nat → Int32) : Nat → Nat → Int32
  | 0 => ob
  | n + 1 => upd (bk_wf ob s a f n) (240 * s + (a + n)) (f n)
theorem bk_wf_congr (ob : Nat → Int32) (s a : Nat) (f f' : Nat → Int32) : ∀ n, (∀ j, j < n → f j = f' j) → bk_wf ob s a f n = bk_wf ob s a f' n
  | 0, _ => rfl
  | n + 1, h => by
    unfold bk_wf
    rw [bk_wf_congr ob s a f f' n (fun j hj => h j (by omega)), h n (by omega)]
/-- the head of a message that gives: five bytes -/
def bk_hd (ob : Nat → Int32) (s a : Nat) (n r g : Nat) : Nat → Int32 :=
  upd (upd (upd (upd (upd ob (240 * s + a) 129) (240 * s + (a + 1)) (nI (n + 3))) (240 * s + (a + 2)) 1) (240 * s + (a + 3)) (nI (r % 4))) (240 * s + (a + 4)) (nI (g % 256))
section LEAF
variable {B : Nat} {A : Nat → List bk_E} {g : Nat → Nat} {st lf cd bg gv ob ol pb pn xp fh fl fa mk cb mi mb ml pa kb kl kc th pl md cr hc hg hi ib il it qi qc gc lc lr co ta yp ki le go la ps pd pt kw kh kf kz ky wh od tg tr so bd wo be : Nat → Int32} {px fr en ma wr : Int32}
theorem xk_put {post : SX → Prop} {s a : Nat} {v : Int32} (hs : s < 4) (ha : ol s = nI a) (h : a < 240) (hp : post (px, st, lf, cd, bg, gv, upd ob (240 * s + a) v, upd ol s (nI (a + 1)), pb, pn, xp, fh, fl, fa, mk, cb, mi, mb, ml, pa, kb, kl, kc, th, pl, md, cr, hc, hg, hi, ib, il, it, qi, qc, gc, lc, lr, co)) : wpX_put post (px, st, lf, cd, bg, gv, ob, ol, pb, pn, xp, fh, fl, fa, mk, cb, mi, mb, ml, pa, kb, kl, kc, th, pl, md, cr, hc, hg, hi, ib, il, it, qi, qc, gc, lc, lr, co) (nI s) v := by
  have cs : (nI s).toNatClampNeg = s := nI_clamp (by omega)
  have ix : nI s * 240 + nI a = nI (240 * s + a) := by rw [bn_mul, nI_add, Nat.mul_comm]
  have ci : (nI (240 * s + a)).toNatClampNeg = 240 * s + a := nI_clamp (by omega)
  have i4 : vp_in (nI s) 4 := pk_in s 4 hs
  simp only [wpX_put, cs, ha, ix, ci, nI_1, forall_eq]
  exact ⟨i4, pk_in (240 * s + a) 960 (by omega), i4, i4, hp⟩
theorem yk_put {post : SY → Prop} {s a : Nat} {v : Int32} (hs : s < 4) (ha : ol s = nI a) (h : a < 240) (hp : post (fr, en, ma, wr, st, lf, cd, ta, bg, kc, upd ob (240 * s + a) v, upd ol s (nI (a + 1)), pb, pn, yp, ki, le, go, mk, cb, mb, ml, la, ps, pd, pt, kw, kh, kf, kz, ky, th, pl, md, cr, gc, lc, lr, wh, od, tg, tr, so, bd, wo, be)) : wpY_put post (fr, en, ma, wr, st, lf, cd, ta, bg, kc, ob, ol, pb, pn, yp, ki, le, go, mk, cb, mb, ml, la, ps, pd, pt, kw, kh, kf, kz, ky, th, pl, md, cr, gc, lc, lr, wh, od, tg, tr, so, bd, wo, be) (nI s) v := by
  have cs : (nI s).toNatClampNeg = s := nI_clamp (by omega)
  have ix : 240 * nI s + nI a = nI (240 * s + a) := by rw [bn_mul2, nI_add]
  have ci : (nI (240 * s + a)).toNatClampNeg = 240 * s + a := nI_clamp (by omega)
  have i4 : vp_in (nI s) 4 := pk_in s 4 hs
  simp only [wpY_put, cs, ha, ix, ci, nI_1, forall_eq]
  exact ⟨i4, pk_in (240 * s + a) 960 (by omega), i4, i4, hp⟩
theorem xk_startFrame {post : SX → Prop} {s a : Nat} {k v : Int32} (hs : s < 4) (ha : ol s = nI a) (h : a + 1 < 240) (hp : post (px, st, lf, cd, bg, gv, upd (upd ob (240 * s + a) (128 + k)) (240 * s + (a + 1)) v, upd ol s (nI (a + 2)), pb, pn, xp, fh, fl, fa, mk, cb, mi, mb, ml, pa, kb, kl, kc, th, pl, md, cr, hc, hg, hi, ib, il, it, qi, qc, gc, lc, lr, co)) : wpX_startFrame post (px, st, lf, cd, bg, gv, ob, ol, pb, pn, xp, fh, fl, fa, mk, cb, mi, mb, ml, pa, kb, kl, kc, th, pl, md, cr, hc, hg, hi, ib, il, it, qi, qc, gc, lc, lr, co) (nI s) k v := by
  have cs : (nI s).toNatClampNeg = s := nI_clamp (by omega)
  have ix : nI s * 240 + nI a = nI (240 * s + a) := by rw [bn_mul, nI_add, Nat.mul_comm]
  have ci : (nI (240 * s + a)).toNatClampNeg = 240 * s + a := nI_clamp (by omega)
  have ci' : (nI (240 * s + a + 1)).toNatClampNeg = 240 * s + (a + 1) := nI_clamp (by omega)
  have a2 : nI a + 2 = nI (a + 2) := bn_add a 2
  have i4 : vp_in (nI s) 4 := pk_in s 4 hs
  simp only [wpX_startFrame, cs, ha, ix, ci, ci', nI_1, a2, forall_eq]
  exact ⟨i4, pk_in (240 * s + a) 960 (by omega), pk_in (240 * s + a + 1) 960 (by omega), i4, i4, hp⟩
theorem xk_hasRoom {post : Int32 → Prop} {s a n : Nat} (hs : s < 4) (ha : ol s = nI a) (h : a ≤ 240) (hn : n ≤ 70000) (h1 : a + 2 + n ≤ 240 → post 1) (h0 : 240 < a + 2 + n → post 0) : wpX_hasRoom post (px, st, lf, cd, bg, gv, ob, ol, pb, pn, xp, fh, fl, fa, mk, cb, mi, mb, ml, pa, kb, kl, kc, th, pl, md, cr, hc, hg, hi, ib, il, it, qi, qc, gc, lc, lr, co) (nI s) (nI n) := by
  have cs : (nI s).toNatClampNeg = s := nI_clamp (by omega)
  have ix : nI a + 2 + nI n = nI (a + 2 + n) := by rw [bn_add, nI_add]
  simp only [wpX_hasRoom, cs, ha, ix]
  exact ⟨pk_in s 4 hs, pk_lt 240 (a + 2 + n) h0 h1⟩
/-- who can take a body of n bytes from place t -/
def bk_Can (A : Nat → List bk_E) (st ol th pl md cr : Nat → Int32) (r t n : Nat) : Prop :=
  th r = 1 ∧ pl r = nI t ∧ st (r / 4) = 1 ∧ (∃ a, ol (r / 4) = nI a ∧ a + 5 + n ≤ 240) ∧ (md r = 0 ∨ ∃ c, cr r = nI c ∧ c ≤ 5 ∧ (A (3 + r)).length < c)
theorem xk_canTake {post : Int32 → Prop} {r t n : Nat} (h : bk_C B A g st ol th pl md cr lr gv ib il it qi qc ta wh od tg tr so bd fr en) (rh : bk_RH A hi hg hc) (hr : r < 16) (ht : t < 6) (hn : n ≤ 65536) (h1 : bk_Can A st ol th pl md cr r t n → post 1) (h0 : ¬ bk_Can A st ol th pl md cr r t n → post 0) : wpX_canTake post (px, st, lf, cd, bg, gv, ob, ol, pb, pn, xp, fh, fl, fa, mk, cb, mi, mb, ml, pa, kb, kl, kc, th, pl, md, cr, hc, hg, hi, ib, il, it, qi, qc, gc, lc, lr, co) (nI r) (nI t) (nI n) := by
  have cr' : (nI r).toNatClampNeg = r := nI_clamp (by omega)
  have ix : nI r / 4 = nI (r / 4) := bn_div r 4 (by omega) (by decide) (by decide)
  have cs : (nI (r / 4)).toNatClampNeg = r / 4 := nI_clamp (by omega)
  have a3 : 3 + nI n = nI (3 + n) := bn_add2 n 3
  have ir : vp_in (nI r) 16 := pk_in r 16 hr
  have hl := (dk_len h).2 r hr
  have hc' := (rh r hr).1
  obtain ⟨_, _, _, ⟨a, ha, ea⟩, _⟩ := h.2.2.2.1 (r / 4) (by omega)
  have g1 := h.2.2.1 r hr
  simp only [wpX_canTake, cr', ix, cs, a3, forall_eq]
  refine ⟨by decide, ir, br_c (fun e => ?_) (fun e => ⟨ir, br_c (fun e2 => ⟨pk_in (r / 4) 4 (by omega), br_c (fun e3 => ?_) (fun e3 => ?_)⟩) (fun e2 => ?_)⟩)⟩
  · exact h0 (fun z => absurd (e.symm.trans z.1) (by decide))
  · rcases g1 with ⟨g1, _⟩ | ⟨g1, t', m, c, k1, k2, k3, k4, k5, k6, k7, k8, k9⟩
    · exact absurd g1 e
    refine xk_hasRoom (by omega) ea ha (by omega) (fun room => ?_) (fun room => ?_)
    · refine br_f (by decide) ⟨ir, ?_⟩
      refine br_c (fun e4 => h1 ⟨g1, e2, e3, ⟨a, ea, by omega⟩, Or.inl e4⟩) (fun e4 => ⟨ir, ir, ?_⟩)
      rw [k5, hc']
      refine pk_le c (A (3 + r)).length (fun z => ?_) (fun z => ?_)
      · refine h0 (fun w => ?_)
        rcases w.2.2.2.2 with w | ⟨c', w1, w2, w3⟩
        · exact e4 w
        · rw [k5] at w1
          have := (nI_eq (by omega) (by omega)).mp w1
          omega
      · exact h1 ⟨g1, e2, e3, ⟨a, ea, by omega⟩, Or.inr ⟨c, k5, k7, z⟩⟩
    · refine br_t rfl (h0 (fun w => ?_))
      obtain ⟨a', w1, w2⟩ := w.2.2.2.1
      rw [ea] at w1
      have := (nI_eq (by omega) (by omega)).mp w1
      omega
  · exact h0 (fun w => e3 w.2.2.1)
  · exact h0 (fun w => e2 w.2.1)
theorem yk_can {post : Int32 → Prop} {r t n : Nat} (h : bk_C B A g st ol th pl md cr lr gv ib il it qi qc ta wh od tg tr so bd fr en) (hr : r < 16) (ht : t < 6) (hn : n ≤ 65536) (h1 : bk_Can A st ol th pl md cr r t n → post 1) (h0 : ¬ bk_Can A st ol th pl md cr r t n → post 0) : wpY_can post (fr, en, ma, wr, st, lf, cd, ta, bg, kc, ob, ol, pb, pn, yp, ki, le, go, mk, cb, mb, ml, la, ps, pd, pt, kw, kh, kf, kz, ky, th, pl, md, cr, gc, lc, lr, wh, od, tg, tr, so, bd, wo, be) (nI r) (nI t) (nI n) := by
  have cr' : (nI r).toNatClampNeg = r := nI_clamp (by omega)
  have ix : nI r / 4 = nI (r / 4) := bn_div r 4 (by omega) (by decide) (by decide)
  have cs : (nI (r / 4)).toNatClampNeg = r / 4 := nI_clamp (by omega)
  have a3 : 3 + nI r = nI (3 + r) := bn_add2 r 3
  have ir : vp_in (nI r) 16 := pk_in r 16 hr
  have hl := (dk_len h).2 r hr
  obtain ⟨_, _, _, ⟨a, ha, ea⟩, _⟩ := h.2.2.2.1 (r / 4) (by omega)
  have ix5 : nI a + nI n + 5 = nI (a + n + 5) := by rw [nI_add, bn_add]
  have g1 := h.2.2.1 r hr
  simp only [wpY_can, cr', ix, cs, a3, forall_eq]
  refine ⟨by decide, yk_countL h (by omega) ?_⟩
  rw [ea, ix5]
  refine ⟨ir, br_c (fun e => ?_) (fun e => ⟨ir, br_c (fun e2 => ⟨pk_in (r / 4) 4 (by omega), br_c (fun e3 => ⟨pk_in (r / 4) 4 (by omega), ?_⟩) (fun e3 => ?_)⟩) (fun e2 => ?_)⟩)⟩
  · exact h0 (fun z => absurd (e.symm.trans z.1) (by decide))
  · rcases g1 with ⟨g1, _⟩ | ⟨g1, t', m, c, k1, k2, k3, k4, k5, k6, k7, k8, k9⟩
    · exact absurd g1 e
    refine pk_lt 240 (a + n + 5) (fun room => ?_) (fun room => ⟨ir, ?_⟩)
    · refine h0 (fun w => ?_)
      obtain ⟨a', w1, w2⟩ := w.2.2.2.1
      rw [ea] at w1
      have := (nI_eq (by omega) (by omega)).mp w1
      omega
    · refine br_c (fun e4 => h1 ⟨g1, e2, e3, ⟨a, ea, by omega⟩, Or.inl e4⟩) (fun e4 => ⟨ir, ?_⟩)
      rw [k5]
      refine pk_le c (A (3 + r)).length (fun z => ?_) (fun z => ?_)
      · refine h0 (fun w => ?_)
        rcases w.2.2.2.2 with w | ⟨c', w1, w2, w3⟩
        · exact e4 w
        · rw [k5] at w1
          have := (nI_eq (by omega) (by omega)).mp w1
          omega
      · exact h1 ⟨g1, e2, e3, ⟨a, ea, by omega⟩, Or.inr ⟨c, k5, k7, z⟩⟩
  · exact h0 (fun w => e3 w.2.2.1)
  · exact h0 (fun w => e2 w.2.1)
end LEAF
end
section
/-! an item is given: what X does, for its two kinds of bodies; what Y does -/
section GIVE
variable {B : Nat} {A : Nat → List bk_E} {g : Nat → Nat} {st lf cd bg gv ob ol pb pn xp fh fl fa mk cb mi mb ml pa kb kl kc th pl md cr hc hg hi ib il it qi qc gc lc lr co ta yp ki le go la ps pd pt kw kh kf kz ky wh od tg tr so bd wo be : Nat → Int32} {px fr en ma wr : Int32}
set_option maxHeartbeats 200000 in
theorem xk_gl_itemBody {post : SX → Prop} {p n s a : Nat} {x1 x5 : Int32} (hs : s < 4) (ha : a + n ≤ 240) (hq : p + n ≤ 1664)
    (hend : ∀ f, wX_give__itemBody_52 post x1 (nI p) (nI n) x5 (nI s) (f + 1) (nI n) px st lf cd bg gv (bk_wf ob s a (fun k => ib (p + k)) n) (upd ol s (nI (a + n))) pb pn xp fh fl fa mk cb mi mb ml pa kb kl kc th pl md cr hc hg hi ib il it qi qc gc lc lr co) :
    ∀ f k : Nat, k ≤ n → n - k < f → wX_give__itemBody_52 post x1 (nI p) (nI n) x5 (nI s) f (nI k) px st lf cd bg gv (bk_wf ob s a (fun k => ib (p + k)) k) (upd ol s (nI (a + k))) pb pn xp fh fl fa mk cb mi mb ml pa kb kl kc th pl md cr hc hg hi ib il it qi qc gc lc lr co
  | 0, k, h1, h2 => by omega
  | f + 1, k, h1, h2 => by
    by_cases e : k = n
    · subst e; exact hend f
    · have ix : nI p + nI k = nI (p + k) := nI_add p k
      have ci : (nI (p + k)).toNatClampNeg = p + k := nI_clamp (by omega)
      refine br_f (nI_ge (by omega) (by omega)) ?_
      rw [ix, ci]
      refine ⟨pk_in (p + k) 1664 (by omega), xk_put hs pk_us (by omega) (nm_r (nI_1 k) ?_)⟩
      rw [bk_uu]
      exact xk_gl_itemBody hs ha hq hend f (k + 1) (by omega) (by omega)
set_option maxHeartbeats 200000 in
theorem xk_gh_itemBody {post : SX → Prop} {p n r a G : Nat} {x5 : Int32} (hr : r < 16) (hn : n ≤ 16) (ha : ol (r / 4) = nI a) (hroom : a + 5 + n ≤ 240) (hq : p + n ≤ 1664) (hg' : gv (r / 4) = nI G) (hG : G < 2 ^ 31)
    (hend : ∀ f, wX_give__itemBody_52 post (nI r) (nI p) (nI n) x5 (nI (r / 4)) (f + 1) (nI n) px st lf cd bg gv (bk_wf (bk_hd ob (r / 4) a n r G) (r / 4) (a + 5) (fun k => ib (p + k)) n) (upd ol (r / 4) (nI (a + 5 + n))) pb pn xp fh fl fa mk cb mi mb ml pa kb kl kc th pl md cr hc hg hi ib il it qi qc gc lc lr co) :
    wpX_give__itemBody post (px, st, lf, cd, bg, gv, ob, ol, pb, pn, xp, fh, fl, fa, mk, cb, mi, mb, ml, pa, kb, kl, kc, th, pl, md, cr, hc, hg, hi, ib, il, it, qi, qc, gc, lc, lr, co) (nI r) (nI p) (nI n) x5 := by
  have hs : r / 4 < 4 := by omega
  have ix : nI r / 4 = nI (r / 4) := bn_div r 4 (by omega) (by decide) (by decide)
  have cs : (nI (r / 4)).toNatClampNeg = r / 4 := nI_clamp (by omega)
  have e3 : 3 + nI n = nI (n + 3) := by rw [bn_add2, Nat.add_comm]
  have er : nI r - nI r / 4 * 4 = nI (r % 4) := pk_rem (a := r) (d := 4) (by omega) (by decide) (by decide)
  have e129 : (128 : Int32) + 1 = 129 := by decide
  have eg : gv (r / 4) &&& 255 = nI (G % 256) := by rw [hg', bn_255 G hG]
  unfold wpX_give__itemBody
  refine ⟨by decide, nm_r ix (xk_startFrame hs ha (by omega) ?_)⟩
  refine xk_put hs pk_us (by omega) ⟨by decide, ?_⟩
  refine xk_put hs pk_us (by omega) ⟨pk_in (r / 4) 4 hs, ?_⟩
  refine xk_put hs pk_us (by omega) ⟨n + 1, ?_⟩
  rw [cs, eg, e3, er, e129, bk_uu, bk_uu, bk_uu]
  have w := xk_gl_itemBody (a := a + 5) (s := r / 4) (p := p) (n := n) (post := post) (x1 := nI r) (x5 := x5) (ob := bk_hd ob (r / 4) a n r G) (ol := upd ol (r / 4) (nI (a + 5))) hs hroom hq (by rw [bk_uu]; exact hend) (n + 1) 0 (by omega) (by omega)
  rw [bk_uu] at w
  exact w
set_option maxHeartbeats 200000 in
/-- held -/
theorem xk_g1_itemBody {post : SX → Prop} {p n r a G m t c : Nat} {x5 : Int32} (hr : r < 16) (hn : n ≤ 16) (ha : ol (r / 4) = nI a) (hroom : a + 5 + n ≤ 240) (hq : p + n ≤ 1664) (hg' : gv (r / 4) = nI G) (hG : G < 2 ^ 31)
    (hm : md r = nI m) (hm3 : m < 3) (hm0 : m ≠ 0) (hp' : pl r = nI t) (ht : t < 6) (hc' : hc r = nI c) (hc5 : c < 5)
    (hp : post (px, st, lf, cd, bg, upd gv (r / 4) (nI (G + 1)), bk_wf (bk_hd ob (r / 4) a n r G) (r / 4) (a + 5) (fun k => ib (p + k)) n, upd ol (r / 4) (nI (a + 5 + n)), pb, pn, xp, fh, fl, fa, mk, cb, mi, mb, ml, pa, kb, kl, kc, th, pl, md, cr, upd hc r (nI (c + 1)), upd hg (r * 5 + c) (nI G), upd hi (r * 5 + c) x5, ib, il, it, qi, qc, upd gc t (gc t + 1), lc, upd lr t (nI r), co)) :
    wpX_give__itemBody post (px, st, lf, cd, bg, gv, ob, ol, pb, pn, xp, fh, fl, fa, mk, cb, mi, mb, ml, pa, kb, kl, kc, th, pl, md, cr, hc, hg, hi, ib, il, it, qi, qc, gc, lc, lr, co) (nI r) (nI p) (nI n) x5 := by
  have hs : r / 4 < 4 := by omega
  have cr' : (nI r).toNatClampNeg = r := nI_clamp (by omega)
  have cs : (nI (r / 4)).toNatClampNeg = r / 4 := nI_clamp (by omega)
  have ct : (nI t).toNatClampNeg = t := nI_clamp (by omega)
  have ix : nI r * 5 + nI c = nI (r * 5 + c) := by rw [bn_mul, nI_add]
  have ci : (nI (r * 5 + c)).toNatClampNeg = r * 5 + c := nI_clamp (by omega)
  have ir : vp_in (nI r) 16 := pk_in r 16 hr
  have i4 : vp_in (nI (r / 4)) 4 := pk_in (r / 4) 4 hs
  have it6 : vp_in (nI t) 6 := pk_in t 6 ht
  have ih : vp_in (nI (r * 5 + c)) 80 := pk_in (r * 5 + c) 80 (by omega)
  refine xk_gh_itemBody hr hn ha hroom hq hg' hG (fun f => ?_)
  refine br_t (nI_le (Nat.le_refl _) (by omega)) ⟨ir, ?_⟩
  rw [cr', hm]
  refine br_f (nI_ne0 (by omega) (by omega)) ?_
  simp only [wX_give__itemBody_148, cr', cs, ct, hc', hp', hg', ix, ci, nI_1, forall_eq]
  exact ⟨ir, i4, ih, ih, ir, ir, i4, i4, ir, it6, it6, ir, it6, hp⟩
set_option maxHeartbeats 200000 in
/-- not held -/
theorem xk_g0_itemBody {post : SX → Prop} {p n r a G t : Nat} {x5 : Int32} (hr : r < 16) (hn : n ≤ 16) (ha : ol (r / 4) = nI a) (hroom : a + 5 + n ≤ 240) (hq : p + n ≤ 1664) (hg' : gv (r / 4) = nI G) (hG : G < 2 ^ 31)
    (hm : md r = 0) (hp' : pl r = nI t) (ht : t < 6) (hx : x5 = -1 ∨ ∃ q, q < 104 ∧ x5 = nI q)
    (hp : post (px, st, lf, cd, bg, upd gv (r / 4) (nI (G + 1)), bk_wf (bk_hd ob (r / 4) a n r G) (r / 4) (a + 5) (fun k => ib (p + k)) n, upd ol (r / 4) (nI (a + 5 + n)), pb, pn, xp, fh, fl, fa, mk, cb, mi, mb, ml, pa, kb, kl, kc, th, pl, md, cr, hc, hg, hi, ib, bk_fre il x5, it, qi, qc, upd gc t (gc t + 1), lc, upd lr t (nI r), co)) :
    wpX_give__itemBody post (px, st, lf, cd, bg, gv, ob, ol, pb, pn, xp, fh, fl, fa, mk, cb, mi, mb, ml, pa, kb, kl, kc, th, pl, md, cr, hc, hg, hi, ib, il, it, qi, qc, gc, lc, lr, co) (nI r) (nI p) (nI n) x5 := by
  have hs : r / 4 < 4 := by omega
  have cr' : (nI r).toNatClampNeg = r := nI_clamp (by omega)
  have cs : (nI (r / 4)).toNatClampNeg = r / 4 := nI_clamp (by omega)
  have ct : (nI t).toNatClampNeg = t := nI_clamp (by omega)
  have ir : vp_in (nI r) 16 := pk_in r 16 hr
  have i4 : vp_in (nI (r / 4)) 4 := pk_in (r / 4) 4 hs
  have it6 : vp_in (nI t) 6 := pk_in t 6 ht
  refine xk_gh_itemBody hr hn ha hroom hq hg' hG (fun f => ?_)
  refine br_t (nI_le (Nat.le_refl _) (by omega)) ⟨ir, ?_⟩
  rw [cr']
  refine br_t hm ?_
  unfold bk_fre at hp
  rcases hx with rfl | ⟨q, hq', rfl⟩
  · refine br_t rfl ?_
    rw [if_pos rfl] at hp
    simp only [wX_give__itemBody_148, cr', cs, ct, hp', hg', nI_1, forall_eq]
    exact ⟨i4, i4, ir, it6, it6, ir, it6, hp⟩
  · refine br_f (bk_nm1 (by omega)) ?_
    rw [if_neg (bk_nm1 (by omega)), nI_clamp (by omega)] at hp
    simp only [wX_give__itemBody_148, cr', cs, ct, hp', hg', nI_1, nI_clamp (show q < 2 ^ 31 by omega), forall_eq]
    exact ⟨pk_in q 104 hq', i4, i4, ir, it6, it6, ir, it6, hp⟩
set_option maxHeartbeats 200000 in
theorem xk_gl_keptBytes {post : SX → Prop} {p n s a : Nat} {x1 x5 : Int32} (hs : s < 4) (ha : a + n ≤ 240) (hq : p + n ≤ 532)
    (hend : ∀ f, wX_give__keptBytes_52 post x1 (nI p) (nI n) x5 (nI s) (f + 1) (nI n) px st lf cd bg gv (bk_wf ob s a (fun k => kb (p + k)) n) (upd ol s (nI (a + n))) pb pn xp fh fl fa mk cb mi mb ml pa kb kl kc th pl md cr hc hg hi ib il it qi qc gc lc lr co) :
    ∀ f k : Nat, k ≤ n → n - k < f → wX_give__keptBytes_52 post x1 (nI p) (nI n) x5 (nI s) f (nI k) px st lf cd bg gv (bk_wf ob s a (fun k => kb (p + k)) k) (upd ol s (nI (a + k))) pb pn xp fh fl fa mk cb mi mb ml pa kb kl kc th pl md cr hc hg hi ib il it qi qc gc lc lr co
  | 0, k, h1, h2 => by omega
  | f + 1, k, h1, h2 => by
    by_cases e : k = n
    · subst e; exact hend f
    · have ix : nI p + nI k = nI (p + k) := nI_add p k
      have ci : (nI (p + k)).toNatClampNeg = p + k := nI_clamp (by omega)
      refine br_f (nI_ge (by omega) (by omega)) ?_
      rw [ix, ci]
      refine ⟨pk_in (p + k) 532 (by omega), xk_put hs pk_us (by omega) (nm_r (nI_1 k) ?_)⟩
      rw [bk_uu]
      exact xk_gl_keptBytes hs ha hq hend f (k + 1) (by omega) (by omega)
set_option maxHeartbeats 200000 in
theorem xk_gh_keptBytes {post : SX → Prop} {p n r a G : Nat} {x5 : Int32} (hr : r < 16) (hn : n ≤ 16) (ha : ol (r / 4) = nI a) (hroom : a + 5 + n ≤ 240) (hq : p + n ≤ 532) (hg' : gv (r / 4) = nI G) (hG : G < 2 ^ 31)
    (hend : ∀ f, wX_give__keptBytes_52 post (nI r) (nI p) (nI n) x5 (nI (r / 4)) (f + 1) (nI n) px st lf cd bg gv (bk_wf (bk_hd ob (r / 4) a n r G) (r / 4) (a + 5) (fun k => kb (p + k)) n) (upd ol (r / 4) (nI (a + 5 + n))) pb pn xp fh fl fa mk cb mi mb ml pa kb kl kc th pl md cr hc hg hi ib il it qi qc gc lc lr co) :
    wpX_give__keptBytes post (px, st, lf, cd, bg, gv, ob, ol, pb, pn, xp, fh, fl, fa, mk, cb, mi, mb, ml, pa, kb, kl, kc, th, pl, md, cr, hc, hg, hi, ib, il, it, qi, qc, gc, lc, lr, co) (nI r) (nI p) (nI n) x5 := by
  have hs : r / 4 < 4 := by omega
  have ix : nI r / 4 = nI (r / 4) := bn_div r 4 (by omega) (by decide) (by decide)
  have cs : (nI (r / 4)).toNatClampNeg = r / 4 := nI_clamp (by omega)
  have e3 : 3 + nI n = nI (n + 3) := by rw [bn_add2, Nat.add_comm]
  have er : nI r - nI r / 4 * 4 = nI (r % 4) := pk_rem (a := r) (d := 4) (by omega) (by decide) (by decide)
  have e129 : (128 : Int32) + 1 = 129 := by decide
  have eg : gv (r / 4) &&& 255 = nI (G % 256) := by rw [hg', bn_255 G hG]
  unfold wpX_give__keptBytes
  refine ⟨by decide, nm_r ix (xk_startFrame hs ha (by omega) ?_)⟩
  refine xk_put hs pk_us (by omega) ⟨by decide, ?_⟩
  refine xk_put hs pk_us (by omega) ⟨pk_in (r / 4) 4 hs, ?_⟩
  refine xk_put hs pk_us (by omega) ⟨n + 1, ?_⟩
  rw [cs, eg, e3, er, e129, bk_uu, bk_uu, bk_uu]
  have w := xk_gl_keptBytes (a := a + 5) (s := r / 4) (p := p) (n := n) (post := post) (x1 := nI r) (x5 := x5) (ob := bk_hd ob (r / 4) a n r G) (ol := upd ol (r / 4) (nI (a + 5))) hs hroom hq (by rw [bk_uu]; exact hend) (n + 1) 0 (by omega) (by omega)
  rw [bk_uu] at w
  exact w
set_option maxHeartbeats 200000 in
/-- held -/
theorem xk_g1_keptBytes {post : SX → Prop} {p n r a G m t c : Nat} {x5 : Int32} (hr : r < 16) (hn : n ≤ 16) (ha : ol (r / 4) = nI a) (hroom : a + 5 + n ≤ 240) (hq : p + n ≤ 532) (hg' : gv (r / 4) = nI G) (hG : G < 2 ^ 31)
    (hm : md r = nI m) (hm3 : m < 3) (hm0 : m ≠ 0) (hp' : pl r = nI t) (ht : t < 6) (hc' : hc r = nI c) (hc5 : c < 5)
    (hp : post (px, st, lf, cd, bg, upd gv (r / 4) (nI (G + 1)), bk_wf (bk_hd ob (r / 4) a n r G) (r / 4) (a + 5) (fun k => kb (p + k)) n, upd ol (r / 4) (nI (a + 5 + n)), pb, pn, xp, fh, fl, fa, mk, cb, mi, mb, ml, pa, kb, kl, kc, th, pl, md, cr, upd hc r (nI (c + 1)), upd hg (r * 5 + c) (nI G), upd hi (r * 5 + c) x5, ib, il, it, qi, qc, upd gc t (gc t + 1), lc, upd lr t (nI r), co)) :
    wpX_give__keptBytes post (px, st, lf, cd, bg, gv, ob, ol, pb, pn, xp, fh, fl, fa, mk, cb, mi, mb, ml, pa, kb, kl, kc, th, pl, md, cr, hc, hg, hi, ib, il, it, qi, qc, gc, lc, lr, co) (nI r) (nI p) (nI n) x5 := by
  have hs : r / 4 < 4 := by omega
  have cr' : (nI r).toNatClampNeg = r := nI_clamp (by omega)
  have cs : (nI (r / 4)).toNatClampNeg = r / 4 := nI_clamp (by omega)
  have ct : (nI t).toNatClampNeg = t := nI_clamp (by omega)
  have ix : nI r * 5 + nI c = nI (r * 5 + c) := by rw [bn_mul, nI_add]
  have ci : (nI (r * 5 + c)).toNatClampNeg = r * 5 + c := nI_clamp (by omega)
  have ir : vp_in (nI r) 16 := pk_in r 16 hr
  have i4 : vp_in (nI (r / 4)) 4 := pk_in (r / 4) 4 hs
  have it6 : vp_in (nI t) 6 := pk_in t 6 ht
  have ih : vp_in (nI (r * 5 + c)) 80 := pk_in (r * 5 + c) 80 (by omega)
  refine xk_gh_keptBytes hr hn ha hroom hq hg' hG (fun f => ?_)
  refine br_t (nI_le (Nat.le_refl _) (by omega)) ⟨ir, ?_⟩
  rw [cr', hm]
  refine br_f (nI_ne0 (by omega) (by omega)) ?_
  simp only [wX_give__keptBytes_148, cr', cs, ct, hc', hp', hg', ix, ci, nI_1, forall_eq]
  exact ⟨ir, i4, ih, ih, ir, ir, i4, i4, ir, it6, it6, ir, it6, hp⟩
set_option maxHeartbeats 200000 in
/-- not held -/
theorem xk_g0_keptBytes {post : SX → Prop} {p n r a G t : Nat} {x5 : Int32} (hr : r < 16) (hn : n ≤ 16) (ha : ol (r / 4) = nI a) (hroom : a + 5 + n ≤ 240) (hq : p + n ≤ 532) (hg' : gv (r / 4) = nI G) (hG : G < 2 ^ 31)
    (hm : md r = 0) (hp' : pl r = nI t) (ht : t < 6) (hx : x5 = -1 ∨ ∃ q, q < 104 ∧ x5 = nI q)
    (hp : post (px, st, lf, cd, bg, upd gv (r / 4) (nI (G + 1)), bk_wf (bk_hd ob (r / 4) a n r G) (r / 4) (a + 5) (fun k => kb (p + k)) n, upd ol (r / 4) (nI (a + 5 + n)), pb, pn, xp, fh, fl, fa, mk, cb, mi, mb, ml, pa, kb, kl, kc, th, pl, md, cr, hc, hg, hi, ib, bk_fre il x5, it, qi, qc, upd gc t (gc t + 1), lc, upd lr t (nI r), co)) :
    wpX_give__keptBytes post (px, st, lf, cd, bg, gv, ob, ol, pb, pn, xp, fh, fl, fa, mk, cb, mi, mb, ml, pa, kb, kl, kc, th, pl, md, cr, hc, hg, hi, ib, il, it, qi, qc, gc, lc, lr, co) (nI r) (nI p) (nI n) x5 := by
  have hs : r / 4 < 4 := by omega
  have cr' : (nI r).toNatClampNeg = r := nI_clamp (by omega)
  have cs : (nI (r / 4)).toNatClampNeg = r / 4 := nI_clamp (by omega)
  have ct : (nI t).toNatClampNeg = t := nI_clamp (by omega)
  have ir : vp_in (nI r) 16 := pk_in r 16 hr
  have i4 : vp_in (nI (r / 4)) 4 := pk_in (r / 4) 4 hs
  have it6 : vp_in (nI t) 6 := pk_in t 6 ht
  refine xk_gh_keptBytes hr hn ha hroom hq hg' hG (fun f => ?_)
  refine br_t (nI_le (Nat.le_refl _) (by omega)) ⟨ir, ?_⟩
  rw [cr']
  refine br_t hm ?_
  unfold bk_fre at hp
  rcases hx with rfl | ⟨q, hq', rfl⟩
  · refine br_t rfl ?_
    rw [if_pos rfl] at hp
    simp only [wX_give__keptBytes_148, cr', cs, ct, hp', hg', nI_1, forall_eq]
    exact ⟨i4, i4, ir, it6, it6, ir, it6, hp⟩
  · refine br_f (bk_nm1 (by omega)) ?_
    rw [if_neg (bk_nm1 (by omega)), nI_clamp (by omega)] at hp
    simp only [wX_give__keptBytes_148, cr', cs, ct, hp', hg', nI_1, nI_clamp (show q < 2 ^ 31 by omega), forall_eq]
    exact ⟨pk_in q 104 hq', i4, i4, ir, it6, it6, ir, it6, hp⟩
set_option maxHeartbeats 200000 in
theorem yk_gl {post : SY → Prop} {y n s a : Nat} {x1 x5 : Int32} (hs : s < 4) (ha : a + n ≤ 240) (hq : y < 112) (hn : n ≤ 16)
    (hend : ∀ f, wY_give_65 post x1 (nI y) (nI s) (nI n) x5 (f + 1) (nI n) fr en ma wr st lf cd ta bg kc (bk_wf ob s a (fun k => bd (16 * y + k)) n) (upd ol s (nI (a + n))) pb pn yp ki le go mk cb mb ml la ps pd pt kw kh kf kz ky th pl md cr gc lc lr wh od tg tr so bd wo be) :
    ∀ f k : Nat, k ≤ n → n - k < f → wY_give_65 post x1 (nI y) (nI s) (nI n) x5 f (nI k) fr en ma wr st lf cd ta bg kc (bk_wf ob s a (fun k => bd (16 * y + k)) k) (upd ol s (nI (a + k))) pb pn yp ki le go mk cb mb ml la ps pd pt kw kh kf kz ky th pl md cr gc lc lr wh od tg tr so bd wo be
  | 0, k, h1, h2 => by omega
  | f + 1, k, h1, h2 => by
    by_cases e : k = n
    · subst e; exact hend f
    · have ix : 16 * nI y + nI k = nI (16 * y + k) := by rw [bn_mul2, nI_add]
      have ci : (nI (16 * y + k)).toNatClampNeg = 16 * y + k := nI_clamp (by omega)
      refine br_f (nI_ge (by omega) (by omega)) ?_
      rw [ix, ci]
      refine ⟨pk_in (16 * y + k) 1792 (by omega), yk_put hs pk_us (by omega) (nm_r (nI_1 k) ?_)⟩
      rw [bk_uu]
      exact yk_gl hs ha hq hn hend f (k + 1) (by omega) (by omega)
set_option maxHeartbeats 200000 in
theorem yk_give {post : SY → Prop} {y n r a G t : Nat} (hr : r < 16) (hn : n ≤ 16) (ha : ol (r / 4) = nI a) (hroom : a + 5 + n ≤ 240) (hy : y < 112) (hso : so y = nI n) (hg' : ta (r / 4) = nI (G % 256)) (hp' : pl r = nI t) (ht : t < 6) (z0 : Int32) (hz : (md r = 0 ∧ z0 = -1) ∨ (md r ≠ 0 ∧ z0 = nI (3 + r)))
    (hp : post (fr, en + 1, ma, wr, st, lf, cd, upd ta (r / 4) (nI ((G % 256 + 1) % 256)), bg, kc, bk_wf (bk_hd ob (r / 4) a n r G) (r / 4) (a + 5) (fun k => bd (16 * y + k)) n, upd ol (r / 4) (nI (a + 5 + n)), pb, pn, yp, ki, le, go, mk, cb, mb, ml, la, ps, pd, pt, kw, kh, kf, kz, ky, th, pl, md, cr, upd gc t (gc t + 1), lc, upd lr t (nI r), upd wh y z0, upd od y (en + 1), upd tg y (ta (r / 4)), tr, so, bd, wo, be)) :
    wpY_give post (fr, en, ma, wr, st, lf, cd, ta, bg, kc, ob, ol, pb, pn, yp, ki, le, go, mk, cb, mb, ml, la, ps, pd, pt, kw, kh, kf, kz, ky, th, pl, md, cr, gc, lc, lr, wh, od, tg, tr, so, bd, wo, be) (nI r) (nI y) := by
  have hs : r / 4 < 4 := by omega
  have cr' : (nI r).toNatClampNeg = r := nI_clamp (by omega)
  have cy : (nI y).toNatClampNeg = y := nI_clamp (by omega)
  have ix : nI r / 4 = nI (r / 4) := bn_div r 4 (by omega) (by decide) (by decide)
  have cs : (nI (r / 4)).toNatClampNeg = r / 4 := nI_clamp (by omega)
  have ct : (nI t).toNatClampNeg = t := nI_clamp (by omega)
  have e3 : nI n + 3 = nI (n + 3) := bn_add n 3
  have e33 : 3 + nI r = nI (3 + r) := bn_add2 r 3
  have er : nI r - nI r / 4 * 4 = nI (r % 4) := pk_rem (a := r) (d := 4) (by omega) (by decide) (by decide)
  have e256 : nI (G % 256 + 1) - nI (G % 256 + 1) / 256 * 256 = nI ((G % 256 + 1) % 256) := pk_rem (a := G % 256 + 1) (d := 256) (by omega) (by decide) (by decide)
  have ir : vp_in (nI r) 16 := pk_in r 16 hr
  have iy : vp_in (nI y) 112 := pk_in y 112 hy
  have i4 : vp_in (nI (r / 4)) 4 := pk_in (r / 4) 4 hs
  have it6 : vp_in (nI t) 6 := pk_in t 6 ht
  unfold wpY_give
  refine ⟨by decide, nm_r ix ⟨iy, nm_r (by rw [cy, hso]) ⟨ir, nm_r (by rw [cr', hp']) (yk_put hs ha (by omega) ?_)⟩⟩⟩
  refine yk_put hs pk_us (by omega) ?_
  refine yk_put hs pk_us (by omega) ⟨by decide, ?_⟩
  refine yk_put hs pk_us (by omega) ⟨i4, ?_⟩
  refine yk_put hs pk_us (by omega) ⟨n + 1, ?_⟩
  rw [cs, hg', e3, er, bk_uu, bk_uu, bk_uu, bk_uu]
  have hend : ∀ f, wY_give_65 post (nI r) (nI y) (nI (r / 4)) (nI n) (nI t) (f + 1) (nI n) fr en ma wr st lf cd ta bg kc (bk_wf (bk_hd ob (r / 4) a n r G) (r / 4) (a + 5) (fun k => bd (16 * y + k)) n) (upd ol (r / 4) (nI (a + 5 + n))) pb pn yp ki le go mk cb mb ml la ps pd pt kw kh kf kz ky th pl md cr gc lc lr wh od tg tr so bd wo be := by
    intro f
    refine br_t (nI_le (Nat.le_refl _) (by omega)) ⟨ir, ?_⟩
    rw [cr']
    rcases hz with ⟨m0, rfl⟩ | ⟨m0, rfl⟩
    · refine br_t m0 ?_
      simp only [wY_give_116, cy, cs, ct, hg', nI_1, e256, forall_eq]
      rw [hg'] at hp
      exact ⟨iy, iy, i4, iy, i4, by decide, i4, it6, it6, it6, hp⟩
    · refine br_f m0 ?_
      simp only [wY_give_116, e33, cy, cs, ct, hg', nI_1, e256, forall_eq]
      rw [hg'] at hp
      exact ⟨iy, iy, i4, iy, i4, by decide, i4, it6, it6, it6, hp⟩
  have w := yk_gl (a := a + 5) (s := r / 4) (y := y) (n := n) (post := post) (x1 := nI r) (x5 := nI t) (ob := bk_hd ob (r / 4) a n r G) (ol := upd ol (r / 4) (nI (a + 5))) hs hroom hy hn (by rw [bk_uu]; exact hend) (n + 1) 0 (by omega) (by omega)
  rw [bk_uu] at w
  exact w
end GIVE
end
section
/-! the desk as one value; queues give -/
abbrev bk_DT : Type := (Nat → List bk_E) × (Nat → Nat) × (Nat → Int32) × (Nat → Int32) × (Nat → Int32) × (Nat → Int32) × (Nat → Int32) × (Nat → Int32) × (Nat → Int32) × (Nat → Int32) × (Nat → Int32) × (Nat → Int32) × (Nat → Int32) × (Nat → Int32) × (Nat → Int32) × (Nat → Int32) × (Nat → Int32) × (Nat → Int32) × (Nat → Int32) × (Nat → Int32) × (Nat → Int32) × (Nat → Int32) × (Nat → Int32) × (Nat → Int32) × Int32 × Int32
abbrev zz_A (d : bk_DT) : (Nat → List bk_E) := d.1
abbrev zz_g (d : bk_DT) : (Nat → Nat) := d.2.1
abbrev zz_ob (d : bk_DT) : (Nat → Int32) := d.2.2.1
abbrev zz_ol (d : bk_DT) : (Nat → Int32) := d.2.2.2.1
abbrev zz_gc (d : bk_DT) : (Nat → Int32) := d.2.2.2.2.1
abbrev zz_lc (d : bk_DT) : (Nat → Int32) := d.2.2.2.2.2.1
abbrev zz_lr (d : bk_DT) : (Nat → Int32) := d.2.2.2.2.2.2.1
abbrev zz_gv (d : bk_DT) : (Nat → Int32) := d.2.2.2.2.2.2.2.1
abbrev zz_th (d : bk_DT) : (Nat → Int32) := d.2.2.2.2.2.2.2.2.1
abbrev zz_hc (d : bk_DT) : (Nat → Int32) := d.2.2.2.2.2.2.2.2.2.1
abbrev zz_hg (d : bk_DT) : (Nat → Int32) := d.2.2.2.2.2.2.2.2.2.2.1
abbrev zz_hi (d : bk_DT) : (Nat → Int32) := d.2.2.2.2.2.2.2.2.2.2.2.1
abbrev zz_ib (d : bk_DT) : (Nat → Int32) := d.2.2.2.2.2.2.2.2.2.2.2.2.1
abbrev zz_il (d : bk_DT) : (Nat → Int32) := d.2.2.2.2.2.2.2.2.2.2.2.2.2.1
abbrev zz_it (d : bk_DT) : (Nat → Int32) := d.2.2.2.2.2.2.2.2.2.2.2.2.2.2.1
abbrev zz_qi (d : bk_DT) : (Nat → Int32) := d.2.2.2.2.2.2.2.2.2.2.2.2.2.2.2.1
abbrev zz_qc (d : bk_DT) : (Nat → Int32) := d.2.2.2.2.2.2.2.2.2.2.2.2.2.2.2.2.1
abbrev zz_ta (d : bk_DT) : (Nat → Int32) := d.2.2.2.2.2.2.2.2.2.2.2.2.2.2.2.2.2.1
abbrev zz_wh (d : bk_DT) : (Nat → Int32) := d.2.2.2.2.2.2.2.2.2.2.2.2.2.2.2.2.2.2.1
abbrev zz_od (d : bk_DT) : (Nat → Int32) := d.2.2.2.2.2.2.2.2.2.2.2.2.2.2.2.2.2.2.2.1
abbrev zz_tg (d : bk_DT) : (Nat → Int32) := d.2.2.2.2.2.2.2.2.2.2.2.2.2.2.2.2.2.2.2.2.1
abbrev zz_tr (d : bk_DT) : (Nat → Int32) := d.2.2.2.2.2.2.2.2.2.2.2.2.2.2.2.2.2.2.2.2.2.1
abbrev zz_so (d : bk_DT) : (Nat → Int32) := d.2.2.2.2.2.2.2.2.2.2.2.2.2.2.2.2.2.2.2.2.2.2.1
abbrev zz_bd (d : bk_DT) : (Nat → Int32) := d.2.2.2.2.2.2.2.2.2.2.2.2.2.2.2.2.2.2.2.2.2.2.2.1
abbrev zz_fr (d : bk_DT) : Int32 := d.2.2.2.2.2.2.2.2.2.2.2.2.2.2.2.2.2.2.2.2.2.2.2.2.1
abbrev zz_en (d : bk_DT) : Int32 := d.2.2.2.2.2.2.2.2.2.2.2.2.2.2.2.2.2.2.2.2.2.2.2.2.2
theorem bk_shl_0 (f : Nat → Int32) (b : Nat) : bk_shl f b 0 = f := by
  funext j; unfold bk_shl; rw [if_neg (by omega)]
theorem bk_shl_s (f : Nat → Int32) (b i : Nat) : upd (bk_shl f b i) (b + i) (f (b + i + 1)) = bk_shl f b (i + 1) := by
  funext j
  unfold upd bk_shl
  by_cases e : j = b + i
  · rw [if_pos e, if_pos (by omega), e]
  · rw [if_neg e]
    by_cases h : b ≤ j ∧ j < b + i
    · rw [if_pos h, if_pos (by omega)]
    · rw [if_neg h, if_neg (by omega)]
theorem bk_shl_o (f : Nat → Int32) (b i : Nat) : bk_shl f b i (b + i + 1) = f (b + i + 1) := by
  unfold bk_shl; rw [if_neg (by omega)]
section QUEUE
variable {B : Nat} {A : Nat → List bk_E} {g : Nat → Nat} {st lf cd bg gv ob ol pb pn xp fh fl fa mk cb mi mb ml pa kb kl kc th pl md cr hc hg hi ib il it qi qc gc lc lr co ta yp ki le go la ps pd pt kw kh kf kz ky wh od tg tr so bd wo be : Nat → Int32} {px fr en ma wr : Int32}
/-- the ring behind the latest one -/
theorem bk_ring (h : ∀ t, t < 6 → lr t = -1 ∨ ∃ r, r < 16 ∧ lr t = nI r) {t : Nat} (ht : t < 6) : ∃ b, b ≤ 16 ∧ ∀ j, lr t + nI (j + 1) = nI (b + j) := by
  rcases h t ht with e | ⟨r, hr, e⟩
  · refine ⟨0, by omega, fun j => ?_⟩
    rw [e, Int32.add_comm, pk_m1, Nat.zero_add]
  · refine ⟨r + 1, by omega, fun j => ?_⟩
    rw [e, nI_add]
    exact congrArg nI (by omega)
theorem xk_nt {post : Int32 → Prop} {t n b : Nat} (h : bk_C B A g st ol th pl md cr lr gv ib il it qi qc ta wh od tg tr so bd fr en) (rh : bk_RH A hi hg hc) (ht : t < 3) (hn : n ≤ 16) (hb : b ≤ 16) (hlr : ∀ j, lr t + nI (j + 1) = nI (b + j))
    (h0 : (∀ i, i < 16 → ¬ bk_Can A st ol th pl md cr ((b + i) % 16) t n) → post (-1))
    (h1 : ∀ i, i < 16 → bk_Can A st ol th pl md cr ((b + i) % 16) t n → (∀ j, j < i → ¬ bk_Can A st ol th pl md cr ((b + j) % 16) t n) → post (nI ((b + i) % 16))) :
    ∀ f j, j ≤ 16 → 16 - j < f → (∀ i, i < j → ¬ bk_Can A st ol th pl md cr ((b + i) % 16) t n) → wX_nextTaker_2 post (nI t) (nI n) px st lf cd bg gv ob ol pb pn xp fh fl fa mk cb mi mb ml pa kb kl kc th pl md cr hc hg hi ib il it qi qc gc lc lr co f (nI (j + 1))
  | 0, j, _, _, _ => by omega
  | f + 1, j, hj, hf, no => by
    have ct : (nI t).toNatClampNeg = t := nI_clamp (by omega)
    refine pk_lt 16 (j + 1) (fun g => ?_) (fun g => ⟨pk_in t 6 (by omega), by decide, ?_⟩)
    · have : j = 16 := by omega
      subst this
      exact h0 no
    · rw [ct, hlr]
      refine nm_r (pk_rem (a := b + j) (d := 16) (by omega) (by decide) (by decide)) ?_
      refine xk_canTake h rh (by omega) (by omega) (by omega) (fun c => ?_) (fun c => ?_)
      · exact br_f (by decide) (h1 j (by omega) c no)
      · refine br_t rfl (nm_r (nI_1 (j + 1)) ?_)
        refine xk_nt h rh ht hn hb hlr h0 h1 f (j + 1) (by omega) (by omega) (fun i hi => ?_)
        rcases Nat.lt_succ_iff_lt_or_eq.mp hi with hi | rfl
        · exact no i hi
        · exact c
theorem yk_nt {post : SY → Prop} {J2 J13 : Int32 → Int32 → Int32 → Int32 → Int32 → (Nat → Int32) → (Nat → Int32) → (Nat → Int32) → (Nat → Int32) → (Nat → Int32) → (Nat → Int32) → (Nat → Int32) → (Nat → Int32) → (Nat → Int32) → (Nat → Int32) → (Nat → Int32) → (Nat → Int32) → (Nat → Int32) → (Nat → Int32) → (Nat → Int32) → (Nat → Int32) → (Nat → Int32) → (Nat → Int32) → (Nat → Int32) → (Nat → Int32) → (Nat → Int32) → (Nat → Int32) → (Nat → Int32) → (Nat → Int32) → (Nat → Int32) → (Nat → Int32) → (Nat → Int32) → (Nat → Int32) → (Nat → Int32) → (Nat → Int32) → (Nat → Int32) → (Nat → Int32) → (Nat → Int32) → (Nat → Int32) → (Nat → Int32) → (Nat → Int32) → (Nat → Int32) → (Nat → Int32) → (Nat → Int32) → (Nat → Int32) → (Nat → Int32) → (Nat → Int32) → Prop} {t n b y : Nat} (h : bk_C B A g st ol th pl md cr lr gv ib il it qi qc ta wh od tg tr so bd fr en) (ht : t < 3) (hn : n ≤ 16) (hy : y < 112) (hso : so y = nI n) (hb : b ≤ 16) (hlr : ∀ j, lr t + nI (j + 1) = nI (b + j))
    (h0 : (∀ i, i < 16 → ¬ bk_Can A st ol th pl md cr ((b + i) % 16) t n) → wY_giveAll_72 post J2 J13 (nI t) (nI y) (-1) fr en ma wr st lf cd ta bg kc ob ol pb pn yp ki le go mk cb mb ml la ps pd pt kw kh kf kz ky th pl md cr gc lc lr wh od tg tr so bd wo be)
    (h1 : ∀ i, i < 16 → bk_Can A st ol th pl md cr ((b + i) % 16) t n → (∀ j, j < i → ¬ bk_Can A st ol th pl md cr ((b + j) % 16) t n) → wY_giveAll_72 post J2 J13 (nI t) (nI y) (nI ((b + i) % 16)) fr en ma wr st lf cd ta bg kc ob ol pb pn yp ki le go mk cb mb ml la ps pd pt kw kh kf kz ky th pl md cr gc lc lr wh od tg tr so bd wo be) :
    ∀ f j, j ≤ 16 → 17 - j < f → (∀ i, i < j → ¬ bk_Can A st ol th pl md cr ((b + i) % 16) t n) → wY_giveAll_22 post J2 J13 (nI t) (nI y) fr en ma wr st lf cd ta bg kc ob ol pb pn yp ki le go mk cb mb ml la ps pd pt kw kh kf kz ky th pl md cr gc lc lr wh od tg tr so bd wo be f (-1) (nI (j + 1))
  | 0, j, _, _, _ => by omega
  | f + 1, j, hj, hf, no => by
    have ct : (nI t).toNatClampNeg = t := nI_clamp (by omega)
    have cy : (nI y).toNatClampNeg = y := nI_clamp (by omega)
    refine pk_le 17 (j + 1) (fun g => ?_) (fun g => br_f (by decide) ⟨pk_in t 6 (by omega), by decide, ?_⟩)
    · have : j = 16 := by omega
      subst this
      exact h0 no
    · rw [ct, hlr, cy, hso]
      refine nm_r (pk_rem (a := b + j) (d := 16) (by omega) (by decide) (by decide)) ⟨pk_in y 112 hy, ?_⟩
      refine yk_can h (by omega) (by omega) (by omega) (fun c => ?_) (fun c => ?_)
      · refine br_f (by decide) (nm_r (nI_1 (j + 1)) ?_)
        obtain ⟨f', rfl⟩ : ∃ f', f = f' + 1 := ⟨f - 1, by omega⟩
        have w := h1 j (by omega) c no
        exact pk_le 17 (j + 1 + 1) (fun _ => w) (fun _ => br_t (nI_pos' (by omega)) w)
      · refine br_t rfl (nm_r (nI_1 (j + 1)) ?_)
        refine yk_nt h ht hn hy hso hb hlr h0 h1 f (j + 1) (by omega) (by omega) (fun i hi => ?_)
        rcases Nat.lt_succ_iff_lt_or_eq.mp hi with hi | rfl
        · exact no i hi
        · exact c
/-- the queue's row moves up, then the first one is given -/
theorem xk_q63 {post : SX → Prop} {J7 : Int32 → Int32 → (Nat → Int32) → (Nat → Int32) → (Nat → Int32) → (Nat → Int32) → (Nat → Int32) → (Nat → Int32) → (Nat → Int32) → (Nat → Int32) → (Nat → Int32) → (Nat → Int32) → (Nat → Int32) → (Nat → Int32) → (Nat → Int32) → (Nat → Int32) → (Nat → Int32) → (Nat → Int32) → (Nat → Int32) → (Nat → Int32) → (Nat → Int32) → (Nat → Int32) → (Nat → Int32) → (Nat → Int32) → (Nat → Int32) → (Nat → Int32) → (Nat → Int32) → (Nat → Int32) → (Nat → Int32) → (Nat → Int32) → (Nat → Int32) → (Nat → Int32) → (Nat → Int32) → (Nat → Int32) → (Nat → Int32) → (Nat → Int32) → (Nat → Int32) → (Nat → Int32) → (Nat → Int32) → (Nat → Int32) → Prop} {t N q : Nat} {x3 x5 : Int32} (ht : t < 3) (hN : N < 8) (hq : q < 104)
    (hend : wpX_give__itemBody (fun u => match u with | (px, st, lf, cd, bg, gv, ob, ol, pb, pn, xp, fh, fl, fa, mk, cb, mi, mb, ml, pa, kb, kl, kc, th, pl, md, cr, hc, hg, hi, ib, il, it, qi, qc, gc, lc, lr, co) => ∀ x, x = x3 + 1 → J7 x px st lf cd bg gv ob ol pb pn xp fh fl fa mk cb mi mb ml pa kb kl kc th pl md cr hc hg hi ib il it qi qc gc lc lr co) (px, st, lf, cd, bg, gv, ob, ol, pb, pn, xp, fh, fl, fa, mk, cb, mi, mb, ml, pa, kb, kl, kc, th, pl, md, cr, hc, hg, hi, ib, il, it, bk_shl qi (t * 8) N, upd qc t (nI N), gc, lc, lr, co) x5 (nI (q * 16)) (il q) (nI q)) :
    ∀ f i, i ≤ N → N - i < f → wX_giveQueue_63 post J7 (nI t) (nI (t * 8)) x3 (nI q) x5 px f (nI i) st lf cd bg gv ob ol pb pn xp fh fl fa mk cb mi mb ml pa kb kl kc th pl md cr hc hg hi ib il it (bk_shl qi (t * 8) i) (upd qc t (nI N)) gc lc lr co
  | 0, i, _, _ => by omega
  | f + 1, i, hi, hf => by
    have ct : (nI t).toNatClampNeg = t := nI_clamp (by omega)
    have cq : (nI q).toNatClampNeg = q := nI_clamp (by omega)
    have ix : nI (t * 8) + nI i = nI (t * 8 + i) := nI_add _ _
    have ci : (nI (t * 8 + i)).toNatClampNeg = t * 8 + i := nI_clamp (by omega)
    have ci' : (nI (t * 8 + i + 1)).toNatClampNeg = t * 8 + i + 1 := nI_clamp (by omega)
    have e16 : nI q * 16 = nI (q * 16) := bn_mul q 16
    refine ⟨pk_in t 3 ht, ?_⟩
    rw [ct, pk_us, ix, ci, nI_1 (t * 8 + i), ci', cq, e16]
    refine pk_le N i (fun g => ⟨pk_in q 104 hq, ?_⟩) (fun g => ⟨pk_in (t * 8 + i + 1) 24 (by omega), pk_in (t * 8 + i) 24 (by omega), ?_⟩)
    · have : i = N := by omega
      subst this
      exact hend
    · rw [bk_shl_o, bk_shl_s]
      exact nm_e (nm_r (nI_1 i) (xk_q63 ht hN hq hend f (i + 1) (by omega) (by omega)))
end QUEUE
section QUEUE2
variable {st pl md cr : Nat → Int32}
theorem lk_queue {t : Nat} (ht : t < 3) : ∀ (N : Nat) {B : Nat} {A : Nat → List bk_E} {g : Nat → Nat} {ob : Nat → Int32} {ol : Nat → Int32} {gc : Nat → Int32} {lc : Nat → Int32} {lr : Nat → Int32} {gv : Nat → Int32} {th : Nat → Int32} {hc : Nat → Int32} {hg : Nat → Int32} {hi : Nat → Int32} {ib : Nat → Int32} {il : Nat → Int32} {it : Nat → Int32} {qi : Nat → Int32} {qc : Nat → Int32} {ta : Nat → Int32} {wh : Nat → Int32} {od : Nat → Int32} {tg : Nat → Int32} {tr : Nat → Int32} {so : Nat → Int32} {bd : Nat → Int32} {fr : Int32} {en : Int32}, bk_C B A g st ol th pl md cr lr gv ib il it qi qc ta wh od tg tr so bd fr en → bk_RH A hi hg hc → (A t).length = N → B + N ≤ 100000000 →
    ∃ d : bk_DT, bk_C (B + N) (zz_A d) (zz_g d) st (zz_ol d) (zz_th d) pl md cr (zz_lr d) (zz_gv d) (zz_ib d) (zz_il d) (zz_it d) (zz_qi d) (zz_qc d) (zz_ta d) (zz_wh d) (zz_od d) (zz_tg d) (zz_tr d) (zz_so d) (zz_bd d) (zz_fr d) (zz_en d) ∧ bk_RH (zz_A d) (zz_hi d) (zz_hg d) (zz_hc d) ∧ zz_th d = th ∧
      (∀ {lf cd bg pb pn xp fh fl fa mk cb mi mb ml pa kb kl kc co : Nat → Int32} {px : Int32} (post : SX → Prop) (f k : Nat), k + N ≤ 8 → N < f → post (px, st, lf, cd, bg, zz_gv d, zz_ob d, zz_ol d, pb, pn, xp, fh, fl, fa, mk, cb, mi, mb, ml, pa, kb, kl, kc, zz_th d, pl, md, cr, zz_hc d, zz_hg d, zz_hi d, zz_ib d, zz_il d, zz_it d, zz_qi d, zz_qc d, zz_gc d, zz_lc d, zz_lr d, co) → wX_giveQueue_7 post (nI t) (nI (t * 8)) f (nI k) px st lf cd bg gv ob ol pb pn xp fh fl fa mk cb mi mb ml pa kb kl kc th pl md cr hc hg hi ib il it qi qc gc lc lr co) ∧
      (∀ {lf cd bg kc pb pn yp ki le go mk cb mb ml la ps pd pt kw kh kf kz ky wo be : Nat → Int32} {ma wr : Int32} (post : SY → Prop) (J2 : Int32 → Int32 → Int32 → Int32 → Int32 → (Nat → Int32) → (Nat → Int32) → (Nat → Int32) → (Nat → Int32) → (Nat → Int32) → (Nat → Int32) → (Nat → Int32) → (Nat → Int32) → (Nat → Int32) → (Nat → Int32) → (Nat → Int32) → (Nat → Int32) → (Nat → Int32) → (Nat → Int32) → (Nat → Int32) → (Nat → Int32) → (Nat → Int32) → (Nat → Int32) → (Nat → Int32) → (Nat → Int32) → (Nat → Int32) → (Nat → Int32) → (Nat → Int32) → (Nat → Int32) → (Nat → Int32) → (Nat → Int32) → (Nat → Int32) → (Nat → Int32) → (Nat → Int32) → (Nat → Int32) → (Nat → Int32) → (Nat → Int32) → (Nat → Int32) → (Nat → Int32) → (Nat → Int32) → (Nat → Int32) → (Nat → Int32) → (Nat → Int32) → (Nat → Int32) → (Nat → Int32) → (Nat → Int32) → (Nat → Int32) → Prop) (f : Nat) (b : Int32), N + 1 < f → ((A t = [] ∧ b = -1) ∨ ∃ p l, A t = p :: l ∧ b = nI p.2.1) → J2 (nI (t + 1)) (zz_fr d) (zz_en d) ma wr st lf cd (zz_ta d) bg kc (zz_ob d) (zz_ol d) pb pn yp ki le go mk cb mb ml la ps pd pt kw kh kf kz ky (zz_th d) pl md cr (zz_gc d) (zz_lc d) (zz_lr d) (zz_wh d) (zz_od d) (zz_tg d) (zz_tr d) (zz_so d) (zz_bd d) wo be → wY_giveAll_13 post J2 (nI t) f b fr en ma wr st lf cd ta bg kc ob ol pb pn yp ki le go mk cb mb ml la ps pd pt kw kh kf kz ky th pl md cr gc lc lr wh od tg tr so bd wo be) := by
  intro N
  induction N with
  | zero =>
    intro B A g ob ol gc lc lr gv th hc hg hi ib il it qi qc ta wh od tg tr so bd fr en h rh hN hB
    have hA : A t = [] := List.length_eq_zero_iff.mp hN
    refine ⟨(A, g, ob, ol, gc, lc, lr, gv, th, hc, hg, hi, ib, il, it, qi, qc, ta, wh, od, tg, tr, so, bd, fr, en), h, rh, rfl, ?_, ?_⟩
    · intro lf cd bg pb pn xp fh fl fa mk cb mi mb ml pa kb kl kc co px post f k hk hf hp
      obtain ⟨f, rfl⟩ : ∃ f', f = f' + 1 := ⟨f - 1, by omega⟩
      have ct : (nI t).toNatClampNeg = t := nI_clamp (by omega)
      have hq := (h.2.1 t ht).1
      rw [hA] at hq
      refine pk_le 8 k (fun _ => hp) (fun _ => ⟨pk_in t 3 ht, ?_⟩)
      rw [ct, hq]
      exact br_t (by decide) hp
    · intro lf cd bg kc pb pn yp ki le go mk cb mb ml la ps pd pt kw kh kf kz ky wo be ma wr post J2 f b hf hb hJ
      obtain ⟨f, rfl⟩ : ∃ f', f = f' + 1 := ⟨f - 1, by omega⟩
      rcases hb with ⟨_, rfl⟩ | ⟨p, l, e, _⟩
      · exact br_t bk_m1lt (nm_r (nI_1 t) hJ)
      · rw [hA] at e; cases e
  | succ N ih =>
    intro B A g ob ol gc lc lr gv th hc hg hi ib il it qi qc ta wh od tg tr so bd fr en h rh hN hB
    have ct : (nI t).toNatClampNeg = t := nI_clamp (by omega)
    have c8 : (nI (t * 8)).toNatClampNeg = t * 8 := nI_clamp (by omega)
    cases hA : A t with
    | nil => rw [hA] at hN; cases hN
    | cons p l =>
    have hl : l.length = N := by rw [hA] at hN; exact Nat.succ.inj hN
    have h8 := (dk_len h).1 t ht
    rw [hN] at h8
    have hpm : p ∈ A t := by rw [hA]; exact List.mem_cons_self
    have hq := (h.2.1 t ht).1
    have hqi := (h.2.1 t ht).2 0 p (by rw [hA]; rfl)
    rw [hN] at hq
    have c0 := h.1.1 t p (by omega) hpm
    rcases c0.2.2.1 with ⟨_, q, n, tt, o1, o2, o3, o4, o5, o6, o7, o8, o9, o10⟩ | ⟨x, _⟩
    rotate_left
    · exact absurd (Or.inl ht) x
    have cq : (nI q).toNatClampNeg = q := nI_clamp (by omega)
    have e16 : nI q * 16 = nI (q * 16) := bn_mul q 16
    rw [o2, Nat.add_zero] at hqi
    obtain ⟨b, hb, hlr⟩ := bk_ring h.2.2.2.2.1 (show t < 6 by omega)
    -- X's road to the taker
    have roadX : ∀ {lf cd bg pb pn xp fh fl fa mk cb mi mb ml pa kb kl kc co : Nat → Int32} {px : Int32} (post : SX → Prop) (f k : Nat), k + (N + 1) ≤ 8 → 
        ((∀ i, i < 16 → ¬ bk_Can A st ol th pl md cr ((b + i) % 16) t n) → post (px, st, lf, cd, bg, gv, ob, ol, pb, pn, xp, fh, fl, fa, mk, cb, mi, mb, ml, pa, kb, kl, kc, th, pl, md, cr, hc, hg, hi, ib, il, it, qi, qc, gc, lc, lr, co)) →
        (∀ i, i < 16 → bk_Can A st ol th pl md cr ((b + i) % 16) t n → (∀ j, j < i → ¬ bk_Can A st ol th pl md cr ((b + j) % 16) t n) →
          ∃ n63, wX_giveQueue_63 post (wX_giveQueue_7 post (nI t) (nI (t * 8)) f) (nI t) (nI (t * 8)) (nI k) (nI q) (nI ((b + i) % 16)) px n63 0 st lf cd bg gv ob ol pb pn xp fh fl fa mk cb mi mb ml pa kb kl kc th pl md cr hc hg hi ib il it qi (upd qc t (nI N)) gc lc lr co) →
        wX_giveQueue_7 post (nI t) (nI (t * 8)) (f + 1) (nI k) px st lf cd bg gv ob ol pb pn xp fh fl fa mk cb mi mb ml pa kb kl kc th pl md cr hc hg hi ib il it qi qc gc lc lr co := by
      intro lf cd bg pb pn xp fh fl fa mk cb mi mb ml pa kb kl kc co px post f k hk g0 g1
      refine br_f (nI_ge (b := 8) (by omega) (by omega)) ⟨pk_in t 3 ht, ?_⟩
      rw [ct, hq, c8, hqi]
      refine br_f (nI_nle (by omega) (by omega)) ⟨pk_in (t * 8) 24 (by omega), nm_e ⟨pk_in q 104 o1, ?_⟩⟩
      rw [cq, o6]
      refine ⟨17, xk_nt h rh ht o4 hb hlr (fun no => ?_) (fun i hi c no => ?_) 17 0 (by omega) (by omega) (fun i hi => absurd hi (Nat.not_lt_zero i))⟩
      · exact br_f (by decide) (g0 no)
      · refine br_t (nI_pos' (by omega)) ⟨pk_in t 3 ht, pk_in t 3 ht, nm_r (e' := upd qc t (nI N)) (by rw [nI_pred]) (g1 i hi c no)⟩
    by_cases any : ∃ i, i < 16 ∧ bk_Can A st ol th pl md cr ((b + i) % 16) t n
    rotate_left
    · refine ⟨(A, g, ob, ol, gc, lc, lr, gv, th, hc, hg, hi, ib, il, it, qi, qc, ta, wh, od, tg, tr, so, bd, fr, en), dk_mono h (by omega), rh, rfl, ?_, ?_⟩
      · intro lf cd bg pb pn xp fh fl fa mk cb mi mb ml pa kb kl kc co px post f k hk hf hp
        obtain ⟨f, rfl⟩ : ∃ f', f = f' + 1 := ⟨f - 1, by omega⟩
        exact roadX post f k hk (fun _ => hp) (fun i hi c _ => absurd ⟨i, hi, c⟩ any)
      · intro lf cd bg kc pb pn yp ki le go mk cb mb ml la ps pd pt kw kh kf kz ky wo be ma wr post J2 f b' hf hb' hJ
        obtain ⟨f, rfl⟩ : ∃ f', f = f' + 1 + 1 := ⟨f - 2, by omega⟩
        rcases hb' with ⟨e, _⟩ | ⟨p', l', e, rfl⟩
        · cases e
        · cases e
          refine br_f (nI_pos (by omega)) ⟨18, yk_nt h ht o4 c0.1 o7 hb hlr (fun no => ?_) (fun i hi c no => absurd ⟨i, hi, c⟩ any) 18 0 (by omega) (by omega) (fun i hi => absurd hi (Nat.not_lt_zero i))⟩
          exact br_t bk_m1lt (br_f (by decide) (br_t bk_m1lt (nm_r (nI_1 t) hJ)))
    · obtain ⟨i, ⟨hi16, can⟩, least⟩ := pk_least _ any
      have least' : ∀ j, j < i → ¬ bk_Can A st ol th pl md cr ((b + j) % 16) t n := fun j hj c => least j hj ⟨by omega, c⟩
      have uniq : ∀ i', i' < 16 → bk_Can A st ol th pl md cr ((b + i') % 16) t n → (∀ j, j < i' → ¬ bk_Can A st ol th pl md cr ((b + j) % 16) t n) → i' = i := by
        intro i' h1 h2 h3
        rcases Nat.lt_trichotomy i' i with z | z | z
        · exact absurd h2 (least' i' z)
        · exact z
        · exact absurd can (h3 i z)
      generalize hr : (b + i) % 16 = r at can
      have hr16 : r < 16 := by omega
      have canr := can
      obtain ⟨k1, k2, k3, ⟨a, k4, k5⟩, k6⟩ := can
      have sess := h.2.2.2.1 (r / 4) (by omega)
      have hG : g (r / 4) < 2 ^ 31 := by have := sess.2.2.1; omega
      have body : ∀ k, k < n → ib (q * 16 + k) = bd (16 * p.2.1 + k) := o10
      have wfe := bk_wf_congr (bk_hd ob (r / 4) a n r (g (r / 4))) (r / 4) (a + 5) (fun k => bd (16 * p.2.1 + k)) (fun k => ib (q * 16 + k)) n (fun j hj => (body j hj).symm)
      have g1 := h.2.2.1 r hr16
      rcases g1 with ⟨z, _⟩ | ⟨_, t', m, c, j1, j2, j3, j4, j5, j6, j7, j8, j9⟩
      · rw [k1] at z; exact absurd z (by decide)
      have hl5 := (dk_len h).2 r hr16
      -- what is common: both give, then the rest by the induction
      by_cases m0 : m = 0
      · subst m0
        have w := dk_giveQ0 (a := a + 5 + n) h rh (by omega) ht hA hr16 (by omega)
        obtain ⟨d, hd, hdr, hth, xd, yd⟩ := ih (ob := bk_wf (bk_hd ob (r / 4) a n r (g (r / 4))) (r / 4) (a + 5) (fun k => ib (q * 16 + k)) n) (gc := upd gc t (gc t + 1)) (lc := lc) w.1 w.2 (by rw [bk_set_s]; exact hl) (by omega)
        refine ⟨d, by rw [Nat.add_assoc, Nat.add_comm 1 N] at hd; exact hd, hdr, hth, ?_, ?_⟩
        · intro lf cd bg pb pn xp fh fl fa mk cb mi mb ml pa kb kl kc co px post f k hk hf hp
          obtain ⟨f, rfl⟩ : ∃ f', f = f' + 1 := ⟨f - 1, by omega⟩
          refine roadX post f k hk (fun no => absurd canr (by have := no i hi16; rw [hr] at this; exact this)) (fun i' h1 h2 h3 => ?_)
          have ei := uniq i' h1 h2 h3
          subst ei
          rw [hr]
          have hend : wpX_give__itemBody (fun u => match u with | (px, st, lf, cd, bg, gv, ob, ol, pb, pn, xp, fh, fl, fa, mk, cb, mi, mb, ml, pa, kb, kl, kc, th, pl, md, cr, hc, hg, hi, ib, il, it, qi, qc, gc, lc, lr, co) => ∀ x, x = nI k + 1 → wX_giveQueue_7 post (nI t) (nI (t * 8)) f x px st lf cd bg gv ob ol pb pn xp fh fl fa mk cb mi mb ml pa kb kl kc th pl md cr hc hg hi ib il it qi qc gc lc lr co) (px, st, lf, cd, bg, gv, ob, ol, pb, pn, xp, fh, fl, fa, mk, cb, mi, mb, ml, pa, kb, kl, kc, th, pl, md, cr, hc, hg, hi, ib, il, it, bk_shl qi (t * 8) N, upd qc t (nI N), gc, lc, lr, co) (nI r) (nI (q * 16)) (il q) (nI q) := by
            rw [o6]
            refine xk_g0_itemBody (a := a) (G := g (r / 4)) (t := t) hr16 o4 k4 k5 (by omega) sess.1 hG j3 k2 (by omega) (Or.inr ⟨q, o1, rfl⟩) (nm_r (nI_1 k) ?_)
            have xx := xd post f (k + 1) (by omega) (by omega) hp
            rw [o2] at xx
            rw [hl] at xx
            exact xx
          have w63 := xk_q63 (post := post) (J7 := wX_giveQueue_7 post (nI t) (nI (t * 8)) f) (t := t) (N := N) (q := q) (x3 := nI k) (x5 := nI r) ht (by omega) o1 hend (N + 1) 0 (by omega) (by omega)
          rw [bk_shl_0] at w63
          exact ⟨N + 1, w63⟩
        · intro lf cd bg kc pb pn yp ki le go mk cb mb ml la ps pd pt kw kh kf kz ky wo be ma wr post J2 f b' hf hb' hJ
          obtain ⟨f, rfl⟩ : ∃ f', f = f' + 1 := ⟨f - 1, by omega⟩
          rcases hb' with ⟨e, _⟩ | ⟨p', l', e, rfl⟩
          · cases e
          · cases e
            refine br_f (nI_pos (by omega)) ⟨18, yk_nt h ht o4 c0.1 o7 hb hlr (fun no => absurd canr (by have := no i hi16; rw [hr] at this; exact this)) (fun i' h1 h2 h3 => ?_) 18 0 (by omega) (by omega) (fun i hi => absurd hi (Nat.not_lt_zero i))⟩
            have ei := uniq i' h1 h2 h3
            subst ei
            rw [hr]
            refine br_f (nI_pos (by omega)) (yk_give (a := a) (G := g (r / 4)) (t := t) hr16 o4 k4 k5 c0.1 o7 sess.2.1 k2 (by omega) (-1) (Or.inl ⟨j3, rfl⟩) ?_)
            rw [wfe]
            refine br_t (nI_pos' (by omega)) (yk_firstAt w.1 (by omega) (by omega) (fun e => ?_) (fun p' l' e => ?_))
            · exact yd post J2 f (-1) (by omega) (Or.inl ⟨e, rfl⟩) hJ
            · exact yd post J2 f (nI p'.2.1) (by omega) (Or.inr ⟨p', l', e, rfl⟩) hJ
      · have k6' : ∃ c', cr r = nI c' ∧ c' ≤ 5 ∧ (A (3 + r)).length < c' := by
          rcases k6 with z | z
          · rw [j3] at z; exact absurd z (nI_ne0 (by omega) (by omega))
          · exact z
        obtain ⟨c', c1, c2, c3⟩ := k6'
        have w := dk_giveQ1 (a := a + 5 + n) h rh (by omega) ht hA hr16 k1 k2 j3 j4 m0 c1 c2 c3 (by omega)
        obtain ⟨d, hd, hdr, hth, xd, yd⟩ := ih (ob := bk_wf (bk_hd ob (r / 4) a n r (g (r / 4))) (r / 4) (a + 5) (fun k => ib (q * 16 + k)) n) (gc := upd gc t (gc t + 1)) (lc := lc) w.1 w.2 (by rw [bk_set_n (by omega), bk_set_s]; exact hl) (by omega)
        refine ⟨d, by rw [Nat.add_assoc, Nat.add_comm 1 N] at hd; exact hd, hdr, hth, ?_, ?_⟩
        · intro lf cd bg pb pn xp fh fl fa mk cb mi mb ml pa kb kl kc co px post f k hk hf hp
          obtain ⟨f, rfl⟩ : ∃ f', f = f' + 1 := ⟨f - 1, by omega⟩
          refine roadX post f k hk (fun no => absurd canr (by have := no i hi16; rw [hr] at this; exact this)) (fun i' h1 h2 h3 => ?_)
          have ei := uniq i' h1 h2 h3
          subst ei
          rw [hr]
          have hend : wpX_give__itemBody (fun u => match u with | (px, st, lf, cd, bg, gv, ob, ol, pb, pn, xp, fh, fl, fa, mk, cb, mi, mb, ml, pa, kb, kl, kc, th, pl, md, cr, hc, hg, hi, ib, il, it, qi, qc, gc, lc, lr, co) => ∀ x, x = nI k + 1 → wX_giveQueue_7 post (nI t) (nI (t * 8)) f x px st lf cd bg gv ob ol pb pn xp fh fl fa mk cb mi mb ml pa kb kl kc th pl md cr hc hg hi ib il it qi qc gc lc lr co) (px, st, lf, cd, bg, gv, ob, ol, pb, pn, xp, fh, fl, fa, mk, cb, mi, mb, ml, pa, kb, kl, kc, th, pl, md, cr, hc, hg, hi, ib, il, it, bk_shl qi (t * 8) N, upd qc t (nI N), gc, lc, lr, co) (nI r) (nI (q * 16)) (il q) (nI q) := by
            rw [o6]
            refine xk_g1_itemBody (a := a) (G := g (r / 4)) (t := t) (m := m) (c := (A (3 + r)).length) hr16 o4 k4 k5 (by omega) sess.1 hG j3 j4 m0 k2 (by omega) (rh r hr16).1 (by omega) (nm_r (nI_1 k) ?_)
            have xx := xd post f (k + 1) (by omega) (by omega) hp
            rw [o2] at xx
            rw [hl] at xx
            exact xx
          have w63 := xk_q63 (post := post) (J7 := wX_giveQueue_7 post (nI t) (nI (t * 8)) f) (t := t) (N := N) (q := q) (x3 := nI k) (x5 := nI r) ht (by omega) o1 hend (N + 1) 0 (by omega) (by omega)
          rw [bk_shl_0] at w63
          exact ⟨N + 1, w63⟩
        · intro lf cd bg kc pb pn yp ki le go mk cb mb ml la ps pd pt kw kh kf kz ky wo be ma wr post J2 f b' hf hb' hJ
          obtain ⟨f, rfl⟩ : ∃ f', f = f' + 1 := ⟨f - 1, by omega⟩
          rcases hb' with ⟨e, _⟩ | ⟨p', l', e, rfl⟩
          · cases e
          · cases e
            refine br_f (nI_pos (by omega)) ⟨18, yk_nt h ht o4 c0.1 o7 hb hlr (fun no => absurd canr (by have := no i hi16; rw [hr] at this; exact this)) (fun i' h1 h2 h3 => ?_) 18 0 (by omega) (by omega) (fun i hi => absurd hi (Nat.not_lt_zero i))⟩
            have ei := uniq i' h1 h2 h3
            subst ei
            rw [hr]
            refine br_f (nI_pos (by omega)) (yk_give (a := a) (G := g (r / 4)) (t := t) hr16 o4 k4 k5 c0.1 o7 sess.2.1 k2 (by omega) (nI (3 + r)) (Or.inr ⟨by rw [j3]; exact nI_ne0 (by omega) (by omega), rfl⟩) ?_)
            rw [wfe]
            refine br_t (nI_pos' (by omega)) (yk_firstAt w.1 (by omega) (by omega) (fun e => ?_) (fun p' l' e => ?_))
            · exact yd post J2 f (-1) (by omega) (Or.inl ⟨e, rfl⟩) hJ
            · exact yd post J2 f (nI p'.2.1) (by omega) (Or.inr ⟨p', l', e, rfl⟩) hJ
end QUEUE2
end
section
section GALL
variable {st pl md cr : Nat → Int32}
theorem lk_q1 {t : Nat} (ht : t < 3) {B : Nat} {A : Nat → List bk_E} {g : Nat → Nat} {ob : Nat → Int32} {ol : Nat → Int32} {gc : Nat → Int32} {lc : Nat → Int32} {lr : Nat → Int32} {gv : Nat → Int32} {th : Nat → Int32} {hc : Nat → Int32} {hg : Nat → Int32} {hi : Nat → Int32} {ib : Nat → Int32} {il : Nat → Int32} {it : Nat → Int32} {qi : Nat → Int32} {qc : Nat → Int32} {ta : Nat → Int32} {wh : Nat → Int32} {od : Nat → Int32} {tg : Nat → Int32} {tr : Nat → Int32} {so : Nat → Int32} {bd : Nat → Int32} {fr : Int32} {en : Int32} (h : bk_C B A g st ol th pl md cr lr gv ib il it qi qc ta wh od tg tr so bd fr en) (rh : bk_RH A hi hg hc) (hB : B + 8 ≤ 100000000) :
    ∃ d : bk_DT, bk_C (B + 8) (zz_A d) (zz_g d) st (zz_ol d) (zz_th d) pl md cr (zz_lr d) (zz_gv d) (zz_ib d) (zz_il d) (zz_it d) (zz_qi d) (zz_qc d) (zz_ta d) (zz_wh d) (zz_od d) (zz_tg d) (zz_tr d) (zz_so d) (zz_bd d) (zz_fr d) (zz_en d) ∧ bk_RH (zz_A d) (zz_hi d) (zz_hg d) (zz_hc d) ∧ zz_th d = th ∧
      (∀ {lf cd bg pb pn xp fh fl fa mk cb mi mb ml pa kb kl kc co : Nat → Int32} {px : Int32} (post : SX → Prop), post (px, st, lf, cd, bg, zz_gv d, zz_ob d, zz_ol d, pb, pn, xp, fh, fl, fa, mk, cb, mi, mb, ml, pa, kb, kl, kc, zz_th d, pl, md, cr, zz_hc d, zz_hg d, zz_hi d, zz_ib d, zz_il d, zz_it d, zz_qi d, zz_qc d, zz_gc d, zz_lc d, zz_lr d, co) → wpX_giveQueue post (px, st, lf, cd, bg, gv, ob, ol, pb, pn, xp, fh, fl, fa, mk, cb, mi, mb, ml, pa, kb, kl, kc, th, pl, md, cr, hc, hg, hi, ib, il, it, qi, qc, gc, lc, lr, co) (nI t)) ∧
      (∀ {lf cd bg kc pb pn yp ki le go mk cb mb ml la ps pd pt kw kh kf kz ky wo be : Nat → Int32} {ma wr : Int32} (post : SY → Prop) (n : Nat), wY_giveAll_2 post n (nI (t + 1)) (zz_fr d) (zz_en d) ma wr st lf cd (zz_ta d) bg kc (zz_ob d) (zz_ol d) pb pn yp ki le go mk cb mb ml la ps pd pt kw kh kf kz ky (zz_th d) pl md cr (zz_gc d) (zz_lc d) (zz_lr d) (zz_wh d) (zz_od d) (zz_tg d) (zz_tr d) (zz_so d) (zz_bd d) wo be → wY_giveAll_2 post (n + 1) (nI t) fr en ma wr st lf cd ta bg kc ob ol pb pn yp ki le go mk cb mb ml la ps pd pt kw kh kf kz ky th pl md cr gc lc lr wh od tg tr so bd wo be) := by
  have h8 := (dk_len h).1 t ht
  obtain ⟨d, hd, hdr, hth, xd, yd⟩ := lk_queue (ob := ob) (gc := gc) (lc := lc) ht (A t).length h rh rfl (by omega)
  refine ⟨d, dk_mono hd (by omega), hdr, hth, ?_, ?_⟩
  · intro lf cd bg pb pn xp fh fl fa mk cb mi mb ml pa kb kl kc co px post hp
    exact nm_r (bn_mul t 8) ⟨9, xd post 9 0 (by omega) (by omega) hp⟩
  · intro lf cd bg kc pb pn yp ki le go mk cb mb ml la ps pd pt kw kh kf kz ky wo be ma wr post n hp
    refine br_f (nI_ge (b := 3) (by omega) (by omega)) (yk_firstAt h (by omega) (by omega) (fun e => ?_) (fun p l e => ?_))
    · exact ⟨10, yd post (wY_giveAll_2 post n) 10 (-1) (by omega) (Or.inl ⟨e, rfl⟩) hp⟩
    · exact ⟨10, yd post (wY_giveAll_2 post n) 10 (nI p.2.1) (by omega) (Or.inr ⟨p, l, e, rfl⟩) hp⟩
theorem lk_giveAll {B : Nat} {A : Nat → List bk_E} {g : Nat → Nat} {ob : Nat → Int32} {ol : Nat → Int32} {gc : Nat → Int32} {lc : Nat → Int32} {lr : Nat → Int32} {gv : Nat → Int32} {th : Nat → Int32} {hc : Nat → Int32} {hg : Nat → Int32} {hi : Nat → Int32} {ib : Nat → Int32} {il : Nat → Int32} {it : Nat → Int32} {qi : Nat → Int32} {qc : Nat → Int32} {ta : Nat → Int32} {wh : Nat → Int32} {od : Nat → Int32} {tg : Nat → Int32} {tr : Nat → Int32} {so : Nat → Int32} {bd : Nat → Int32} {fr : Int32} {en : Int32} (h : bk_C B A g st ol th pl md cr lr gv ib il it qi qc ta wh od tg tr so bd fr en) (rh : bk_RH A hi hg hc) (hB : B + 24 ≤ 100000000) :
    ∃ d : bk_DT, bk_C (B + 24) (zz_A d) (zz_g d) st (zz_ol d) (zz_th d) pl md cr (zz_lr d) (zz_gv d) (zz_ib d) (zz_il d) (zz_it d) (zz_qi d) (zz_qc d) (zz_ta d) (zz_wh d) (zz_od d) (zz_tg d) (zz_tr d) (zz_so d) (zz_bd d) (zz_fr d) (zz_en d) ∧ bk_RH (zz_A d) (zz_hi d) (zz_hg d) (zz_hc d) ∧ zz_th d = th ∧
      (∀ {lf cd bg pb pn xp fh fl fa mk cb mi mb ml pa kb kl kc co : Nat → Int32} {px : Int32} (post : SX → Prop), post (px, st, lf, cd, bg, zz_gv d, zz_ob d, zz_ol d, pb, pn, xp, fh, fl, fa, mk, cb, mi, mb, ml, pa, kb, kl, kc, zz_th d, pl, md, cr, zz_hc d, zz_hg d, zz_hi d, zz_ib d, zz_il d, zz_it d, zz_qi d, zz_qc d, zz_gc d, zz_lc d, zz_lr d, co) → wpX_giveQueues post (px, st, lf, cd, bg, gv, ob, ol, pb, pn, xp, fh, fl, fa, mk, cb, mi, mb, ml, pa, kb, kl, kc, th, pl, md, cr, hc, hg, hi, ib, il, it, qi, qc, gc, lc, lr, co)) ∧
      (∀ {lf cd bg kc pb pn yp ki le go mk cb mb ml la ps pd pt kw kh kf kz ky wo be : Nat → Int32} {ma wr : Int32} (post : SY → Prop), post (zz_fr d, zz_en d, ma, wr, st, lf, cd, zz_ta d, bg, kc, zz_ob d, zz_ol d, pb, pn, yp, ki, le, go, mk, cb, mb, ml, la, ps, pd, pt, kw, kh, kf, kz, ky, zz_th d, pl, md, cr, zz_gc d, zz_lc d, zz_lr d, zz_wh d, zz_od d, zz_tg d, zz_tr d, zz_so d, zz_bd d, wo, be) → wpY_giveAll post (fr, en, ma, wr, st, lf, cd, ta, bg, kc, ob, ol, pb, pn, yp, ki, le, go, mk, cb, mb, ml, la, ps, pd, pt, kw, kh, kf, kz, ky, th, pl, md, cr, gc, lc, lr, wh, od, tg, tr, so, bd, wo, be)) := by
  obtain ⟨d0, h0, r0, t0, x0, y0⟩ := lk_q1 (t := 0) (ob := ob) (gc := gc) (lc := lc) (by omega) h rh (by omega)
  obtain ⟨d1, h1, r1, t1, x1, y1⟩ := lk_q1 (t := 1) (ob := zz_ob d0) (gc := zz_gc d0) (lc := zz_lc d0) (by omega) h0 r0 (by omega)
  obtain ⟨d2, h2, r2, t2, x2, y2⟩ := lk_q1 (t := 2) (ob := zz_ob d1) (gc := zz_gc d1) (lc := zz_lc d1) (by omega) h1 r1 (by omega)
  refine ⟨d2, h2, r2, t2.trans (t1.trans t0), ?_, ?_⟩
  · intro lf cd bg pb pn xp fh fl fa mk cb mi mb ml pa kb kl kc co px post hp
    refine ⟨4, br_f (by decide) (x0 _ (nm_r (nI_1 0) (br_f (by decide) (x1 _ (nm_r (nI_1 1) (br_f (by decide) (x2 _ (nm_r (nI_1 2) (br_t (by decide) hp)))))))))⟩
  · intro lf cd bg kc pb pn yp ki le go mk cb mb ml la ps pd pt kw kh kf kz ky wo be ma wr post hp
    exact ⟨4, y0 post 3 (y1 post 2 (y2 post 1 (br_t (by decide) hp)))⟩
end GALL
end
section
/-! what comes back -/
def bk_sri (f : Nat → Int32) (b i c : Nat) : Nat → Int32 := fun j => if b + i < j ∧ j ≤ b + c then f (j - 1) else f j
theorem bk_sri_c (f : Nat → Int32) (b c : Nat) : bk_sri f b c c = f := by
  funext j; unfold bk_sri; rw [if_neg (by omega)]
theorem bk_sri_o (f : Nat → Int32) (b i c : Nat) : bk_sri f b (i + 1) c (b + i) = f (b + i) := by
  unfold bk_sri; rw [if_neg (by omega)]
theorem bk_sri_s (f : Nat → Int32) (b i c : Nat) (h : i < c) : upd (bk_sri f b (i + 1) c) (b + (i + 1)) (f (b + i)) = bk_sri f b i c := by
  funext j
  unfold upd bk_sri
  by_cases e : j = b + (i + 1)
  · rw [if_pos e, if_pos (by omega), e]
    exact congrArg f (by omega)
  · rw [if_neg e]
    by_cases h : b + (i + 1) < j ∧ j ≤ b + c
    · rw [if_pos h, if_pos (by omega)]
    · rw [if_neg h, if_neg (by omega)]
theorem bk_sri_0 (f : Nat → Int32) (b c : Nat) (w : Int32) : upd (bk_sri f b 0 c) b w = bk_shr f b c w := by
  funext j
  unfold upd bk_sri bk_shr
  by_cases e : j = b
  · rw [if_pos e, if_pos e]
  · rw [if_neg e, if_neg e]; rfl
section BACK
variable {B : Nat} {A : Nat → List bk_E} {g : Nat → Nat} {st lf cd bg gv ob ol pb pn xp fh fl fa mk cb mi mb ml pa kb kl kc th pl md cr hc hg hi ib il it qi qc gc lc lr co ta yp ki le go la ps pd pt kw kh kf kz ky wh od tg tr so bd wo be : Nat → Int32} {px fr en ma wr : Int32}
theorem xk_cb58 {post : SX → Prop} {t c : Nat} {w : Int32} (ht : t < 3) (hc' : c < 8) (hq : qc t = nI c) (hp : post (px, st, lf, cd, bg, gv, ob, ol, pb, pn, xp, fh, fl, fa, mk, cb, mi, mb, ml, pa, kb, kl, kc, th, pl, md, cr, hc, hg, hi, ib, il, it, bk_shr qi (t * 8) c w, upd qc t (nI (c + 1)), gc, lc, lr, co)) :
    ∀ f i, i ≤ c → i < f → wX_comeBack_58 post (nI t) w (nI (t * 8)) px f (nI i) st lf cd bg gv ob ol pb pn xp fh fl fa mk cb mi mb ml pa kb kl kc th pl md cr hc hg hi ib il it (bk_sri qi (t * 8) i c) qc gc lc lr co
  | 0, i, _, h => by omega
  | f + 1, 0, _, _ => by
    have ct : (nI t).toNatClampNeg = t := nI_clamp (by omega)
    have c8 : (nI (t * 8)).toNatClampNeg = t * 8 := nI_clamp (by omega)
    refine br_t (by decide) ⟨pk_in (t * 8) 24 (by omega), ?_⟩
    rw [ct, c8, hq, nI_1, bk_sri_0]
    exact nm_e ⟨pk_in t 3 ht, pk_in t 3 ht, nm_e hp⟩
  | f + 1, i + 1, hi', hf => by
    have ix : nI (t * 8) + nI (i + 1) = nI (t * 8 + (i + 1)) := nI_add _ _
    have ip : nI (t * 8 + (i + 1)) - 1 = nI (t * 8 + i) := nI_pred (t * 8 + i)
    have c1 : (nI (t * 8 + (i + 1))).toNatClampNeg = t * 8 + (i + 1) := nI_clamp (by omega)
    have c2 : (nI (t * 8 + i)).toNatClampNeg = t * 8 + i := nI_clamp (by omega)
    refine br_f (nI_nle (by omega) (by omega)) ?_
    rw [ix, ip, c1, c2, bk_sri_o, bk_sri_s _ _ _ _ (by omega)]
    exact ⟨pk_in (t * 8 + i) 24 (by omega), pk_in (t * 8 + (i + 1)) 24 (by omega), nm_e (nm_r (pk_m1 i) (xk_cb58 ht hc' hq hp f i (by omega) (by omega)))⟩
theorem xk_cb_back {post : SX → Prop} {t q c k : Nat} (ht : t < 3) (hq : q < 104) (hit : it q = nI k) (hk : k ≤ 2) (hqc : qc t = nI c) (hc' : c < 8) (hp : post (px, st, lf, cd, bg, gv, ob, ol, pb, pn, xp, fh, fl, fa, mk, cb, mi, mb, ml, pa, kb, kl, kc, th, pl, md, cr, hc, hg, hi, ib, il, it, bk_shr qi (t * 8) c (nI q), upd qc t (nI (c + 1)), gc, lc, lr, co)) : wpX_comeBack post (px, st, lf, cd, bg, gv, ob, ol, pb, pn, xp, fh, fl, fa, mk, cb, mi, mb, ml, pa, kb, kl, kc, th, pl, md, cr, hc, hg, hi, ib, il, it, qi, qc, gc, lc, lr, co) (nI t) (nI q) := by
  have ct : (nI t).toNatClampNeg = t := nI_clamp (by omega)
  have cq : (nI q).toNatClampNeg = q := nI_clamp (by omega)
  have e8 : nI t * 8 = nI (t * 8) := bn_mul t 8
  have w := xk_cb58 (post := post) (t := t) (c := c) (w := nI q) (px := px) ht hc' hqc hp (c + 1) c (Nat.le_refl _) (by omega)
  rw [bk_sri_c] at w
  refine br_f (bk_nm1 (by omega)) ⟨pk_in q 104 hq, ?_⟩
  rw [cq, hit, ct, hqc, e8]
  exact br_f (nI_ge (b := 3) (by omega) (by omega)) ⟨pk_in t 3 ht, br_f (fun e => absurd ((nI_eq (a := c) (b := 8) (by omega) (by omega)).mp e) (by omega)) (nm_e ⟨pk_in t 3 ht, nm_e ⟨c + 1, w⟩⟩)⟩
theorem xk_cb_lost {post : SX → Prop} {t q c k : Nat} (ht : t < 3) (hq : q < 104) (hit : it q = nI k) (hk : k ≤ 3) (hqc : qc t = nI c) (hc' : c ≤ 8) (hl : 3 ≤ k ∨ c = 8) (hp : post (px, st, lf, cd, bg, gv, ob, ol, pb, pn, xp, fh, fl, fa, mk, cb, mi, mb, ml, pa, kb, kl, kc, th, pl, md, cr, hc, hg, hi, ib, upd il q 0, it, qi, qc, gc, upd lc t (lc t + 1), lr, co)) : wpX_comeBack post (px, st, lf, cd, bg, gv, ob, ol, pb, pn, xp, fh, fl, fa, mk, cb, mi, mb, ml, pa, kb, kl, kc, th, pl, md, cr, hc, hg, hi, ib, il, it, qi, qc, gc, lc, lr, co) (nI t) (nI q) := by
  have ct : (nI t).toNatClampNeg = t := nI_clamp (by omega)
  have cq : (nI q).toNatClampNeg = q := nI_clamp (by omega)
  have fin : wX_comeBack_27 post (nI t) (nI q) px st lf cd bg gv ob ol pb pn xp fh fl fa mk cb mi mb ml pa kb kl kc th pl md cr hc hg hi ib il it qi qc gc lc lr co := by
    simp only [wX_comeBack_27, ct, cq, forall_eq]
    exact ⟨pk_in q 104 hq, pk_in t 6 (by omega), pk_in t 6 (by omega), hp⟩
  refine br_f (bk_nm1 (by omega)) ⟨pk_in q 104 hq, ?_⟩
  rw [cq, hit, ct, hqc]
  refine pk_le 3 k (fun _ => fin) (fun h => ⟨pk_in t 3 ht, br_t ?_ fin⟩)
  have : c = 8 := by omega
  rw [this]
  rfl
theorem xk_cb_none {post : SX → Prop} {x : Int32} (hp : post (px, st, lf, cd, bg, gv, ob, ol, pb, pn, xp, fh, fl, fa, mk, cb, mi, mb, ml, pa, kb, kl, kc, th, pl, md, cr, hc, hg, hi, ib, il, it, qi, qc, gc, lc, lr, co)) : wpX_comeBack post (px, st, lf, cd, bg, gv, ob, ol, pb, pn, xp, fh, fl, fa, mk, cb, mi, mb, ml, pa, kb, kl, kc, th, pl, md, cr, hc, hg, hi, ib, il, it, qi, qc, gc, lc, lr, co) x (-1) := br_t rfl hp
/-! Y: back -/
theorem yk_back0 {post : SY → Prop} {r t y : Nat} (h : bk_C B A g st ol th pl md cr lr gv ib il it qi qc ta wh od tg tr so bd fr en) (hr : r < 16) (hpl : pl r = nI t) (ht : t < 6) (hy : y < 112)
    (hs : 3 ≤ t → post (fr, en, ma, wr, st, lf, cd, ta, bg, kc, ob, ol, pb, pn, yp, ki, le, go, mk, cb, mb, ml, la, ps, pd, pt, kw, kh, kf, kz, ky, th, pl, md, cr, gc, lc, lr, upd wh y (-1), od, tg, tr, so, bd, wo, be)) (hl : t < 3 → (A t).length = 8 → post (fr, en, ma, wr, st, lf, cd, ta, bg, kc, ob, ol, pb, pn, yp, ki, le, go, mk, cb, mb, ml, la, ps, pd, pt, kw, kh, kf, kz, ky, th, pl, md, cr, gc, upd lc t (lc t + 1), lr, upd wh y (-1), od, tg, tr, so, bd, wo, be))
    (hb : t < 3 → (A t).length < 8 → post (fr - 1, en, ma, wr, st, lf, cd, ta, bg, kc, ob, ol, pb, pn, yp, ki, le, go, mk, cb, mb, ml, la, ps, pd, pt, kw, kh, kf, kz, ky, th, pl, md, cr, gc, lc, lr, upd wh y (nI t), upd od y (fr - 1), tg, tr, so, bd, wo, be)) : wpY_back post (fr, en, ma, wr, st, lf, cd, ta, bg, kc, ob, ol, pb, pn, yp, ki, le, go, mk, cb, mb, ml, la, ps, pd, pt, kw, kh, kf, kz, ky, th, pl, md, cr, gc, lc, lr, wh, od, tg, tr, so, bd, wo, be) (nI r) (nI y) 0 := by
  have cr' : (nI r).toNatClampNeg = r := nI_clamp (by omega)
  have ct : (nI t).toNatClampNeg = t := nI_clamp (by omega)
  have cy : (nI y).toNatClampNeg = y := nI_clamp (by omega)
  refine ⟨pk_in r 16 hr, nm_r (by rw [cr', hpl]) ?_⟩
  refine pk_le 3 t (fun h3 => ?_) (fun h3 => ?_)
  · refine br_t rfl (br_f (nI_ge (a := 2) (by omega) (by omega)) ⟨pk_in y 112 hy, ?_⟩)
    rw [cy]
    exact nm_e (hs h3)
  · have h8 := (dk_len h).1 t h3
    refine yk_countL h (by omega) (br_t rfl (br_t (nI_le (b := 2) (by omega) (by omega)) ?_))
    refine pk_eq (A t).length 8 (fun e => ?_) (fun e => br_t rfl ?_)
    · simp only [wY_back_77, cy, ct, forall_eq]
      exact ⟨pk_in y 112 hy, pk_in t 6 ht, pk_in t 6 ht, hl h3 e⟩
    · simp only [wY_back_98, cy, forall_eq]
      exact ⟨pk_in y 112 hy, pk_in y 112 hy, hb h3 (by omega)⟩
theorem yk_back1 {post : SY → Prop} {r t y k : Nat} (h : bk_C B A g st ol th pl md cr lr gv ib il it qi qc ta wh od tg tr so bd fr en) (hr : r < 16) (hpl : pl r = nI t) (ht : t < 6) (hy : y < 112) (htr : t < 3 → tr y = nI k ∧ k ≤ 2)
    (hs : 3 ≤ t → post (fr, en, ma, wr, st, lf, cd, ta, bg, kc, ob, ol, pb, pn, yp, ki, le, go, mk, cb, mb, ml, la, ps, pd, pt, kw, kh, kf, kz, ky, th, pl, md, cr, gc, lc, lr, upd wh y (-1), od, tg, upd tr y (tr y + 1), so, bd, wo, be)) (hl : t < 3 → ((A t).length = 8 ∨ k = 2) → post (fr, en, ma, wr, st, lf, cd, ta, bg, kc, ob, ol, pb, pn, yp, ki, le, go, mk, cb, mb, ml, la, ps, pd, pt, kw, kh, kf, kz, ky, th, pl, md, cr, gc, upd lc t (lc t + 1), lr, upd wh y (-1), od, tg, upd tr y (tr y + 1), so, bd, wo, be))
    (hb : t < 3 → (A t).length < 8 → k < 2 → post (fr - 1, en, ma, wr, st, lf, cd, ta, bg, kc, ob, ol, pb, pn, yp, ki, le, go, mk, cb, mb, ml, la, ps, pd, pt, kw, kh, kf, kz, ky, th, pl, md, cr, gc, lc, lr, upd wh y (nI t), upd od y (fr - 1), tg, upd tr y (tr y + 1), so, bd, wo, be)) : wpY_back post (fr, en, ma, wr, st, lf, cd, ta, bg, kc, ob, ol, pb, pn, yp, ki, le, go, mk, cb, mb, ml, la, ps, pd, pt, kw, kh, kf, kz, ky, th, pl, md, cr, gc, lc, lr, wh, od, tg, tr, so, bd, wo, be) (nI r) (nI y) 1 := by
  have cr' : (nI r).toNatClampNeg = r := nI_clamp (by omega)
  have ct : (nI t).toNatClampNeg = t := nI_clamp (by omega)
  have cy : (nI y).toNatClampNeg = y := nI_clamp (by omega)
  refine ⟨pk_in r 16 hr, nm_r (by rw [cr', hpl]) ?_⟩
  refine pk_le 3 t (fun h3 => ?_) (fun h3 => ?_)
  · refine br_f (by decide) ⟨pk_in y 112 hy, pk_in y 112 hy, nm_e (br_f (nI_ge (a := 2) (by omega) (by omega)) ⟨pk_in y 112 hy, ?_⟩)⟩
    rw [cy]
    exact nm_e (hs h3)
  · have h8 := (dk_len h).1 t h3
    obtain ⟨htr, hk⟩ := htr h3
    refine yk_countL h (by omega) (br_f (by decide) ⟨pk_in y 112 hy, pk_in y 112 hy, nm_e (br_t (nI_le (b := 2) (by omega) (by omega)) ?_)⟩)
    have fin : ((A t).length = 8 ∨ k = 2) → wY_back_77 post (nI y) (nI t) fr en ma wr st lf cd ta bg kc ob ol pb pn yp ki le go mk cb mb ml la ps pd pt kw kh kf kz ky th pl md cr gc lc lr wh od tg (upd tr y (tr y + 1)) so bd wo be := by
      intro e
      simp only [wY_back_77, cy, ct, forall_eq]
      exact ⟨pk_in y 112 hy, pk_in t 6 ht, pk_in t 6 ht, hl h3 e⟩
    rw [cy]
    refine pk_eq (A t).length 8 (fun e => fin (Or.inl e)) (fun e => br_f (by decide) ⟨pk_in y 112 hy, ?_⟩)
    rw [pk_us, htr, nI_1]
    refine pk_le (k + 1) 2 (fun e2 => ?_) (fun e2 => ?_)
    · simp only [wY_back_98, cy, forall_eq]
      rw [htr, nI_1] at hb
      exact ⟨pk_in y 112 hy, pk_in y 112 hy, hb h3 (by omega) (by omega)⟩
    · have w := fin (Or.inr (by omega))
      rw [htr, nI_1] at w
      exact w
end BACK
end
section
section ENDS
variable {st pl md cr : Nat → Int32}
theorem lk_ring {B : Nat} {A : Nat → List bk_E} {g : Nat → Nat} {ol th lr gv ib il it qi qc ta wh od tg tr so bd : Nat → Int32} {fr en : Int32} (h : bk_C B A g st ol th pl md cr lr gv ib il it qi qc ta wh od tg tr so bd fr en) {r : Nat} (hr : r < 16) {l1 l2 : List bk_E} {p : bk_E} (hA : A (3 + r) = l1 ++ p :: l2) :
    th r = 1 ∧ p.2.1 < 112 ∧ ∃ t, pl r = nI t ∧ t < 6 ∧ ((3 ≤ t ∧ p.1 = -1) ∨ (t < 3 ∧ ∃ q k, q < 104 ∧ p.1 = nI q ∧ k ≤ 2 ∧ it q = nI k ∧ tr p.2.1 = nI k)) := by
  have ne : A (3 + r) ≠ [] := by rw [hA]; simp
  have hp : p ∈ A (3 + r) := by rw [hA]; exact List.mem_append_right l1 List.mem_cons_self
  have c0 := h.1.1 (3 + r) p (by omega) hp
  rcases h.2.2.1 r hr with ⟨_, z⟩ | ⟨k0, t, m, c, k1, k2, k3⟩
  · exact absurd z ne
  · refine ⟨k0, c0.1, t, k1, k2, ?_⟩
    have e : 3 + r - 3 = r := by omega
    rcases c0.2.2.1 with ⟨z, q, n, tt, o1, o2, o3, o4, o5, o6, o7, o8, o9, o10⟩ | ⟨z, o⟩
    · right
      rcases z with z | z
      · omega
      · rw [e, k1] at z
        have z : t < 3 := (nI_ltI (a := t) (b := 3) (by omega) (by omega)).mp z
        exact ⟨z, q, tt, o1, o2, o5, o8, o9⟩
    · left
      refine ⟨?_, o⟩
      apply Nat.le_of_not_lt
      intro x
      refine z (Or.inr ?_)
      rw [e, k1]
      exact nI_lt (b := 3) x (by omega)
/-- an entry of ring r comes back, with no try more -/
theorem lk_back0 {B : Nat} {A : Nat → List bk_E} {g : Nat → Nat} {ob : Nat → Int32} {ol : Nat → Int32} {gc : Nat → Int32} {lc : Nat → Int32} {lr : Nat → Int32} {gv : Nat → Int32} {th : Nat → Int32} {hc : Nat → Int32} {hg : Nat → Int32} {hi : Nat → Int32} {ib : Nat → Int32} {il : Nat → Int32} {it : Nat → Int32} {qi : Nat → Int32} {qc : Nat → Int32} {ta : Nat → Int32} {wh : Nat → Int32} {od : Nat → Int32} {tg : Nat → Int32} {tr : Nat → Int32} {so : Nat → Int32} {bd : Nat → Int32} {fr : Int32} {en : Int32} (h : bk_C B A g st ol th pl md cr lr gv ib il it qi qc ta wh od tg tr so bd fr en) (hB : B + 1 ≤ 100000000) {r : Nat} (hr : r < 16) {l1 l2 : List bk_E} {p : bk_E} (hA : A (3 + r) = l1 ++ p :: l2) :
    ∃ d : bk_DT, bk_C (B + 1) (zz_A d) (zz_g d) st (zz_ol d) (zz_th d) pl md cr (zz_lr d) (zz_gv d) (zz_ib d) (zz_il d) (zz_it d) (zz_qi d) (zz_qc d) (zz_ta d) (zz_wh d) (zz_od d) (zz_tg d) (zz_tr d) (zz_so d) (zz_bd d) (zz_fr d) (zz_en d) ∧ zz_A d (3 + r) = l1 ++ l2 ∧ (∀ z, z < 16 → z ≠ r → zz_A d (3 + z) = A (3 + z)) ∧ zz_th d = th ∧ zz_hc d = hc ∧ zz_hg d = hg ∧ zz_hi d = hi ∧
      (∀ {lf cd bg pb pn xp fh fl fa mk cb mi mb ml pa kb kl kc co : Nat → Int32} {px : Int32} (post : SX → Prop), post (px, st, lf, cd, bg, zz_gv d, zz_ob d, zz_ol d, pb, pn, xp, fh, fl, fa, mk, cb, mi, mb, ml, pa, kb, kl, kc, zz_th d, pl, md, cr, zz_hc d, zz_hg d, zz_hi d, zz_ib d, zz_il d, zz_it d, zz_qi d, zz_qc d, zz_gc d, zz_lc d, zz_lr d, co) → wpX_comeBack post (px, st, lf, cd, bg, gv, ob, ol, pb, pn, xp, fh, fl, fa, mk, cb, mi, mb, ml, pa, kb, kl, kc, th, pl, md, cr, hc, hg, hi, ib, il, it, qi, qc, gc, lc, lr, co) (pl r) p.1) ∧
      (∀ {lf cd bg kc pb pn yp ki le go mk cb mb ml la ps pd pt kw kh kf kz ky wo be : Nat → Int32} {ma wr : Int32} (post : SY → Prop), post (zz_fr d, zz_en d, ma, wr, st, lf, cd, zz_ta d, bg, kc, zz_ob d, zz_ol d, pb, pn, yp, ki, le, go, mk, cb, mb, ml, la, ps, pd, pt, kw, kh, kf, kz, ky, zz_th d, pl, md, cr, zz_gc d, zz_lc d, zz_lr d, zz_wh d, zz_od d, zz_tg d, zz_tr d, zz_so d, zz_bd d, wo, be) → wpY_back post (fr, en, ma, wr, st, lf, cd, ta, bg, kc, ob, ol, pb, pn, yp, ki, le, go, mk, cb, mb, ml, la, ps, pd, pt, kw, kh, kf, kz, ky, th, pl, md, cr, gc, lc, lr, wh, od, tg, tr, so, bd, wo, be) (nI r) (nI p.2.1) 0) := by
  obtain ⟨_, hy, t, hpl, ht, hk⟩ := lk_ring h hr hA
  have h8 : t < 3 → (A t).length ≤ 8 := (dk_len h).1 t
  rcases hk with ⟨h3, e⟩ | ⟨h3, q, k, hq, e, hk, hit, htr⟩
  · have w := dk_mono (dk_drop h (it' := it) (tr' := tr) hr hA (fun _ _ _ => rfl) (fun _ _ _ => rfl)) (B' := B + 1) (by omega)
    have f : bk_fre il p.1 = il := by unfold bk_fre; rw [if_pos e]
    rw [f] at w
    refine ⟨(bk_set A (3 + r) (l1 ++ l2), g, ob, ol, gc, lc, lr, gv, th, hc, hg, hi, ib, il, it, qi, qc, ta, upd wh p.2.1 (-1), od, tg, tr, so, bd, fr, en), w, bk_set_s, fun z hz hn => bk_set_n (by omega), rfl, rfl, rfl, rfl, ?_, ?_⟩
    · intro lf cd bg pb pn xp fh fl fa mk cb mi mb ml pa kb kl kc co px post hp
      rw [e]
      exact xk_cb_none hp
    · intro lf cd bg kc pb pn yp ki le go mk cb mb ml la ps pd pt kw kh kf kz ky wo be ma wr post hp
      exact yk_back0 h hr hpl ht hy (fun _ => hp) (fun z => by omega) (fun z => by omega)
  · have hqc := (h.2.1 t h3).1
    by_cases e8 : (A t).length = 8
    · have w := dk_mono (dk_drop h (it' := it) (tr' := tr) hr hA (fun _ _ _ => rfl) (fun _ _ _ => rfl)) (B' := B + 1) (by omega)
      have f : bk_fre il p.1 = upd il q 0 := by unfold bk_fre; rw [if_neg (by rw [e]; exact bk_nm1 (by omega)), e, nI_clamp (by omega)]
      rw [f] at w
      refine ⟨(bk_set A (3 + r) (l1 ++ l2), g, ob, ol, gc, upd lc t (lc t + 1), lr, gv, th, hc, hg, hi, ib, upd il q 0, it, qi, qc, ta, upd wh p.2.1 (-1), od, tg, tr, so, bd, fr, en), w, bk_set_s, fun z hz hn => bk_set_n (by omega), rfl, rfl, rfl, rfl, ?_, ?_⟩
      · intro lf cd bg pb pn xp fh fl fa mk cb mi mb ml pa kb kl kc co px post hp
        rw [e, hpl]
        exact xk_cb_lost h3 hq hit (by omega) hqc (h8 h3) (Or.inr e8) hp
      · intro lf cd bg kc pb pn yp ki le go mk cb mb ml la ps pd pt kw kh kf kz ky wo be ma wr post hp
        exact yk_back0 h hr hpl ht hy (fun z => by omega) (fun _ _ => hp) (fun _ z => by omega)
    · have w := dk_back h (by omega) (it' := it) (tr' := tr) hr hA h3 hpl (by have := h8 h3; omega) (fun _ _ _ => rfl) (fun _ _ _ => rfl) hk (fun q' e' hq' => by
        rw [e] at e'
        have := (nI_eq (by omega) (by omega)).mp e'
        rw [← this]; exact hit) htr
      rw [e] at w
      refine ⟨(bk_set (bk_set A (3 + r) (l1 ++ l2)) t (p :: A t), g, ob, ol, gc, lc, lr, gv, th, hc, hg, hi, ib, il, it, bk_shr qi (t * 8) (A t).length (nI q), upd qc t (nI ((A t).length + 1)), ta, upd wh p.2.1 (nI t), upd od p.2.1 (fr - 1), tg, tr, so, bd, fr - 1, en), w, ?_, fun z hz hn => ?_, rfl, rfl, rfl, rfl, ?_, ?_⟩
      · show bk_set (bk_set A (3 + r) (l1 ++ l2)) t (p :: A t) (3 + r) = _
        rw [bk_set_n (by omega), bk_set_s]
      · show bk_set (bk_set A (3 + r) (l1 ++ l2)) t (p :: A t) (3 + z) = _
        rw [bk_set_n (by omega), bk_set_n (by omega)]
      · intro lf cd bg pb pn xp fh fl fa mk cb mi mb ml pa kb kl kc co px post hp
        rw [e, hpl]
        exact xk_cb_back h3 hq hit hk hqc (by have := h8 h3; omega) hp
      · intro lf cd bg kc pb pn yp ki le go mk cb mb ml la ps pd pt kw kh kf kz ky wo be ma wr post hp
        exact yk_back0 h hr hpl ht hy (fun z => by omega) (fun _ z => absurd z e8) (fun _ _ => hp)
/-- an entry of ring r is refused -/
theorem lk_back1 {B : Nat} {A : Nat → List bk_E} {g : Nat → Nat} {ob : Nat → Int32} {ol : Nat → Int32} {gc : Nat → Int32} {lc : Nat → Int32} {lr : Nat → Int32} {gv : Nat → Int32} {th : Nat → Int32} {hc : Nat → Int32} {hg : Nat → Int32} {hi : Nat → Int32} {ib : Nat → Int32} {il : Nat → Int32} {it : Nat → Int32} {qi : Nat → Int32} {qc : Nat → Int32} {ta : Nat → Int32} {wh : Nat → Int32} {od : Nat → Int32} {tg : Nat → Int32} {tr : Nat → Int32} {so : Nat → Int32} {bd : Nat → Int32} {fr : Int32} {en : Int32} (h : bk_C B A g st ol th pl md cr lr gv ib il it qi qc ta wh od tg tr so bd fr en) (hB : B + 1 ≤ 100000000) {r : Nat} (hr : r < 16) {l1 l2 : List bk_E} {p : bk_E} (hA : A (3 + r) = l1 ++ p :: l2) :
    ∃ d : bk_DT, bk_C (B + 1) (zz_A d) (zz_g d) st (zz_ol d) (zz_th d) pl md cr (zz_lr d) (zz_gv d) (zz_ib d) (zz_il d) (zz_it d) (zz_qi d) (zz_qc d) (zz_ta d) (zz_wh d) (zz_od d) (zz_tg d) (zz_tr d) (zz_so d) (zz_bd d) (zz_fr d) (zz_en d) ∧ zz_A d (3 + r) = l1 ++ l2 ∧ (∀ z, z < 16 → z ≠ r → zz_A d (3 + z) = A (3 + z)) ∧ zz_th d = th ∧ zz_hc d = hc ∧ zz_hg d = hg ∧ zz_hi d = hi ∧ (∀ z, z ∈ l1 ++ l2 → zz_od d z.2.1 = od z.2.1) ∧
      ((p.1 = -1 ∧ ∀ {lf cd bg pb pn xp fh fl fa mk cb mi mb ml pa kb kl kc co : Nat → Int32} {px : Int32} (post : SX → Prop), post (px, st, lf, cd, bg, zz_gv d, zz_ob d, zz_ol d, pb, pn, xp, fh, fl, fa, mk, cb, mi, mb, ml, pa, kb, kl, kc, zz_th d, pl, md, cr, zz_hc d, zz_hg d, zz_hi d, zz_ib d, zz_il d, zz_it d, zz_qi d, zz_qc d, zz_gc d, zz_lc d, zz_lr d, co) → post (px, st, lf, cd, bg, gv, ob, ol, pb, pn, xp, fh, fl, fa, mk, cb, mi, mb, ml, pa, kb, kl, kc, th, pl, md, cr, hc, hg, hi, ib, il, it, qi, qc, gc, lc, lr, co)) ∨ ∃ q, q < 104 ∧ p.1 = nI q ∧ ∀ {lf cd bg pb pn xp fh fl fa mk cb mi mb ml pa kb kl kc co : Nat → Int32} {px : Int32} (post : SX → Prop), post (px, st, lf, cd, bg, zz_gv d, zz_ob d, zz_ol d, pb, pn, xp, fh, fl, fa, mk, cb, mi, mb, ml, pa, kb, kl, kc, zz_th d, pl, md, cr, zz_hc d, zz_hg d, zz_hi d, zz_ib d, zz_il d, zz_it d, zz_qi d, zz_qc d, zz_gc d, zz_lc d, zz_lr d, co) → wpX_comeBack post (px, st, lf, cd, bg, gv, ob, ol, pb, pn, xp, fh, fl, fa, mk, cb, mi, mb, ml, pa, kb, kl, kc, th, pl, md, cr, hc, hg, hi, ib, il, upd it q (it q + 1), qi, qc, gc, lc, lr, co) (pl r) (nI q)) ∧
      (∀ {lf cd bg kc pb pn yp ki le go mk cb mb ml la ps pd pt kw kh kf kz ky wo be : Nat → Int32} {ma wr : Int32} (post : SY → Prop), post (zz_fr d, zz_en d, ma, wr, st, lf, cd, zz_ta d, bg, kc, zz_ob d, zz_ol d, pb, pn, yp, ki, le, go, mk, cb, mb, ml, la, ps, pd, pt, kw, kh, kf, kz, ky, zz_th d, pl, md, cr, zz_gc d, zz_lc d, zz_lr d, zz_wh d, zz_od d, zz_tg d, zz_tr d, zz_so d, zz_bd d, wo, be) → wpY_back post (fr, en, ma, wr, st, lf, cd, ta, bg, kc, ob, ol, pb, pn, yp, ki, le, go, mk, cb, mb, ml, la, ps, pd, pt, kw, kh, kf, kz, ky, th, pl, md, cr, gc, lc, lr, wh, od, tg, tr, so, bd, wo, be) (nI r) (nI p.2.1) 1) := by
  obtain ⟨_, hy, t, hpl, ht, hk⟩ := lk_ring h hr hA
  have h8 : t < 3 → (A t).length ≤ 8 := (dk_len h).1 t
  have hp : p ∈ A (3 + r) := by rw [hA]; exact List.mem_append_right l1 List.mem_cons_self
  have odk : ∀ (x : Int32) z, z ∈ l1 ++ l2 → upd od p.2.1 x z.2.1 = od z.2.1 := by
    intro x z hz
    refine pk_un (fun e => ?_)
    have hz' : z ∈ A (3 + r) := by
      rw [hA]
      rcases List.mem_append.mp hz with q | q
      · exact List.mem_append_left _ q
      · exact List.mem_append_right _ (List.mem_cons_of_mem p q)
    have pw := h.1.2.1 (3 + r) (by omega)
    rw [hA, List.pairwise_append, List.pairwise_cons] at pw
    rcases List.mem_append.mp hz with q | q
    · have := pw.2.2 z q p List.mem_cons_self
      rw [e] at this; omega
    · have := pw.2.1.1 z q
      rw [e] at this; omega
  rcases hk with ⟨h3, e⟩ | ⟨h3, q, k, hq, e, hk, hit, htr⟩
  · have w := dk_mono (dk_drop h (it' := it) (tr' := upd tr p.2.1 (tr p.2.1 + 1)) hr hA (fun _ _ _ => rfl) (fun _ _ ne => pk_un ne)) (B' := B + 1) (by omega)
    have f : bk_fre il p.1 = il := by unfold bk_fre; rw [if_pos e]
    rw [f] at w
    refine ⟨(bk_set A (3 + r) (l1 ++ l2), g, ob, ol, gc, lc, lr, gv, th, hc, hg, hi, ib, il, it, qi, qc, ta, upd wh p.2.1 (-1), od, tg, upd tr p.2.1 (tr p.2.1 + 1), so, bd, fr, en), w, bk_set_s, fun z hz hn => bk_set_n (by omega), rfl, rfl, rfl, rfl, fun _ _ => rfl, Or.inl ⟨e, fun post hp => hp⟩, ?_⟩
    intro lf cd bg kc pb pn yp ki le go mk cb mb ml la ps pd pt kw kh kf kz ky wo be ma wr post hp
    exact yk_back1 (k := 0) h hr hpl ht hy (fun z => by omega) (fun _ => hp) (fun z => by omega) (fun z => by omega)
  · have hqc := (h.2.1 t h3).1
    have ine : ∀ z, z < 104 → nI z ≠ p.1 → upd it q (it q + 1) z = it z := fun z hz ne => pk_un (fun x => ne (by rw [e, x]))
    by_cases e8 : (A t).length = 8 ∨ k = 2
    · have w := dk_mono (dk_drop h (it' := upd it q (it q + 1)) (tr' := upd tr p.2.1 (tr p.2.1 + 1)) hr hA ine (fun _ _ ne => pk_un ne)) (B' := B + 1) (by omega)
      have f : bk_fre il p.1 = upd il q 0 := by unfold bk_fre; rw [if_neg (by rw [e]; exact bk_nm1 (by omega)), e, nI_clamp (by omega)]
      rw [f] at w
      refine ⟨(bk_set A (3 + r) (l1 ++ l2), g, ob, ol, gc, upd lc t (lc t + 1), lr, gv, th, hc, hg, hi, ib, upd il q 0, upd it q (it q + 1), qi, qc, ta, upd wh p.2.1 (-1), od, tg, upd tr p.2.1 (tr p.2.1 + 1), so, bd, fr, en), w, bk_set_s, fun z hz hn => bk_set_n (by omega), rfl, rfl, rfl, rfl, fun _ _ => rfl, Or.inr ⟨q, hq, e, ?_⟩, ?_⟩
      · intro lf cd bg pb pn xp fh fl fa mk cb mi mb ml pa kb kl kc co px post hp
        rw [hpl]
        exact xk_cb_lost (k := k + 1) h3 hq (by rw [pk_us, hit, nI_1]) (by omega) hqc (h8 h3) (by omega) hp
      · intro lf cd bg kc pb pn yp ki le go mk cb mb ml la ps pd pt kw kh kf kz ky wo be ma wr post hp
        exact yk_back1 (k := k) h hr hpl ht hy (fun _ => ⟨htr, hk⟩) (fun z => by omega) (fun _ _ => hp) (fun _ z1 z2 => by omega)
    · have w := dk_back h (by omega) (it' := upd it q (it q + 1)) (tr' := upd tr p.2.1 (tr p.2.1 + 1)) (k := k + 1) hr hA h3 hpl (by have := h8 h3; omega) ine (fun _ _ ne => pk_un ne) (by omega) (fun q' e' hq' => by
        rw [e] at e'
        have := (nI_eq (by omega) (by omega)).mp e'
        rw [← this, pk_us, hit, nI_1]) (by rw [pk_us, htr, nI_1])
      rw [e] at w
      refine ⟨(bk_set (bk_set A (3 + r) (l1 ++ l2)) t (p :: A t), g, ob, ol, gc, lc, lr, gv, th, hc, hg, hi, ib, il, upd it q (it q + 1), bk_shr qi (t * 8) (A t).length (nI q), upd qc t (nI ((A t).length + 1)), ta, upd wh p.2.1 (nI t), upd od p.2.1 (fr - 1), tg, upd tr p.2.1 (tr p.2.1 + 1), so, bd, fr - 1, en), w, ?_, fun z hz hn => ?_, rfl, rfl, rfl, rfl, odk _, Or.inr ⟨q, hq, e, ?_⟩, ?_⟩
      · show bk_set (bk_set A (3 + r) (l1 ++ l2)) t (p :: A t) (3 + r) = _
        rw [bk_set_n (by omega), bk_set_s]
      · show bk_set (bk_set A (3 + r) (l1 ++ l2)) t (p :: A t) (3 + z) = _
        rw [bk_set_n (by omega), bk_set_n (by omega)]
      · intro lf cd bg pb pn xp fh fl fa mk cb mi mb ml pa kb kl kc co px post hp
        rw [hpl]
        exact xk_cb_back (k := k + 1) h3 hq (by rw [pk_us, hit, nI_1]) (by omega) hqc (by have := h8 h3; omega) hp
      · intro lf cd bg kc pb pn yp ki le go mk cb mb ml la ps pd pt kw kh kf kz ky wo be ma wr post hp
        exact yk_back1 (k := k) h hr hpl ht hy (fun _ => ⟨htr, hk⟩) (fun z => by omega) (fun _ z => absurd z e8) (fun _ _ _ => hp)
/-- all that ring r holds comes back, the latest first -/
theorem lk_endLoop {r : Nat} (hr : r < 16) : ∀ (N : Nat) {B : Nat} {A : Nat → List bk_E} {g : Nat → Nat} {ob : Nat → Int32} {ol : Nat → Int32} {gc : Nat → Int32} {lc : Nat → Int32} {lr : Nat → Int32} {gv : Nat → Int32} {th : Nat → Int32} {hc : Nat → Int32} {hg : Nat → Int32} {hi : Nat → Int32} {ib : Nat → Int32} {il : Nat → Int32} {it : Nat → Int32} {qi : Nat → Int32} {qc : Nat → Int32} {ta : Nat → Int32} {wh : Nat → Int32} {od : Nat → Int32} {tg : Nat → Int32} {tr : Nat → Int32} {so : Nat → Int32} {bd : Nat → Int32} {fr : Int32} {en : Int32}, bk_C B A g st ol th pl md cr lr gv ib il it qi qc ta wh od tg tr so bd fr en → (A (3 + r)).length = N → (∀ i p, (A (3 + r))[i]? = some p → hi (r * 5 + i) = p.1) → B + N ≤ 100000000 →
    ∃ d : bk_DT, bk_C (B + N) (zz_A d) (zz_g d) st (zz_ol d) (zz_th d) pl md cr (zz_lr d) (zz_gv d) (zz_ib d) (zz_il d) (zz_it d) (zz_qi d) (zz_qc d) (zz_ta d) (zz_wh d) (zz_od d) (zz_tg d) (zz_tr d) (zz_so d) (zz_bd d) (zz_fr d) (zz_en d) ∧ zz_A d (3 + r) = [] ∧ (∀ z, z < 16 → z ≠ r → zz_A d (3 + z) = A (3 + z)) ∧ zz_th d = upd th r 0 ∧ zz_hc d = upd hc r 0 ∧ zz_hg d = hg ∧ zz_hi d = hi ∧
      (∀ {lf cd bg pb pn xp fh fl fa mk cb mi mb ml pa kb kl kc co : Nat → Int32} {px : Int32} (post : SX → Prop) (f : Nat), N < f → post (px, st, lf, cd, bg, zz_gv d, zz_ob d, zz_ol d, pb, pn, xp, fh, fl, fa, mk, cb, mi, mb, ml, pa, kb, kl, kc, zz_th d, pl, md, cr, zz_hc d, zz_hg d, zz_hi d, zz_ib d, zz_il d, zz_it d, zz_qi d, zz_qc d, zz_gc d, zz_lc d, zz_lr d, co) → wX_endSubscription_19 post (nI r) f (nI N - 1) px st lf cd bg gv ob ol pb pn xp fh fl fa mk cb mi mb ml pa kb kl kc th pl md cr hc hg hi ib il it qi qc gc lc lr co) ∧
      (∀ {lf cd bg kc pb pn yp ki le go mk cb mb ml la ps pd pt kw kh kf kz ky wo be : Nat → Int32} {ma wr : Int32} (post : SY → Prop) (f : Nat) (b : Int32), N < f → ((A (3 + r) = [] ∧ b = -1) ∨ ∃ p l, A (3 + r) = l ++ [p] ∧ b = nI p.2.1) → post (zz_fr d, zz_en d, ma, wr, st, lf, cd, zz_ta d, bg, kc, zz_ob d, zz_ol d, pb, pn, yp, ki, le, go, mk, cb, mb, ml, la, ps, pd, pt, kw, kh, kf, kz, ky, zz_th d, pl, md, cr, zz_gc d, zz_lc d, zz_lr d, zz_wh d, zz_od d, zz_tg d, zz_tr d, zz_so d, zz_bd d, wo, be) → wY_endsOne_6 post (nI r) f b fr en ma wr st lf cd ta bg kc ob ol pb pn yp ki le go mk cb mb ml la ps pd pt kw kh kf kz ky th pl md cr gc lc lr wh od tg tr so bd wo be) := by
  have cr' : (nI r).toNatClampNeg = r := nI_clamp (by omega)
  intro N
  induction N with
  | zero =>
    intro B A g ob ol gc lc lr gv th hc hg hi ib il it qi qc ta wh od tg tr so bd fr en h hN _ hB
    have hA : A (3 + r) = [] := List.length_eq_zero_iff.mp hN
    refine ⟨(A, g, ob, ol, gc, lc, lr, gv, upd th r 0, upd hc r 0, hg, hi, ib, il, it, qi, qc, ta, wh, od, tg, tr, so, bd, fr, en), dk_unsub h hA, hA, fun _ _ _ => rfl, rfl, rfl, rfl, rfl, ?_, ?_⟩
    · intro lf cd bg pb pn xp fh fl fa mk cb mi mb ml pa kb kl kc co px post f hf hp
      obtain ⟨f, rfl⟩ : ∃ f', f = f' + 1 := ⟨f - 1, by omega⟩
      refine br_t (by decide) ⟨pk_in r 16 hr, ?_⟩
      rw [cr', bn_b0]
      exact nm_e ⟨pk_in r 16 hr, nm_e hp⟩
    · intro lf cd bg kc pb pn yp ki le go mk cb mb ml la ps pd pt kw kh kf kz ky wo be ma wr post f b hf hb hp
      obtain ⟨f, rfl⟩ : ∃ f', f = f' + 1 := ⟨f - 1, by omega⟩
      rcases hb with ⟨_, rfl⟩ | ⟨p, l, e, _⟩
      · refine br_t bk_m1lt ⟨pk_in r 16 hr, ?_⟩
        rw [cr', bn_b0]
        exact nm_e hp
      · rw [hA] at e
        exact absurd e.symm (by simp)
  | succ N ih =>
    intro B A g ob ol gc lc lr gv th hc hg hi ib il it qi qc ta wh od tg tr so bd fr en h hN hhi hB
    have h5 := (dk_len h).2 r hr
    rcases List.eq_nil_or_concat (A (3 + r)) with e | ⟨l, p, e⟩
    · rw [e] at hN; cases hN
    rw [List.concat_eq_append] at e
    have hl : l.length = N := by rw [e, List.length_append, List.length_singleton] at hN; omega
    have hAe : A (3 + r) = l ++ p :: [] := e
    have hip := hhi N p (by rw [e, List.getElem?_append_right (by omega), hl, Nat.sub_self]; rfl)
    obtain ⟨d1, c1, a1, o1, t1, b1, b2, b3, x1, y1⟩ := lk_back0 (ob := ob) (gc := gc) (lc := lc) (hc := hc) (hg := hg) (hi := hi) h (by omega) hr hAe
    rw [List.append_nil] at a1
    obtain ⟨d, c2, a2, o2, t2, b4, b5, b6, x2, y2⟩ := ih (ob := zz_ob d1) (gc := zz_gc d1) (lc := zz_lc d1) (hc := zz_hc d1) (hg := zz_hg d1) (hi := zz_hi d1) c1 (by rw [a1]; exact hl) (by
      intro i q hq
      rw [a1] at hq
      rw [b3]
      refine hhi i q ?_
      rw [e, List.getElem?_append_left (bk_lt_of_some hq)]
      exact hq) (by omega)
    refine ⟨d, by rw [Nat.add_assoc, Nat.add_comm 1 N] at c2; exact c2, a2, fun z hz hn => by rw [o2 z hz hn, o1 z hz hn], by rw [t2, t1], by rw [b4, b1], by rw [b5, b2], by rw [b6, b3], ?_, ?_⟩
    · intro lf cd bg pb pn xp fh fl fa mk cb mi mb ml pa kb kl kc co px post f hf hp
      obtain ⟨f, rfl⟩ : ∃ f', f = f' + 1 := ⟨f - 1, by omega⟩
      have ix : nI r * 5 + nI N = nI (r * 5 + N) := by rw [bn_mul, nI_add]
      have ci : (nI (r * 5 + N)).toNatClampNeg = r * 5 + N := nI_clamp (by omega)
      rw [nI_pred]
      refine br_f (nI_pos (by omega)) ⟨pk_in r 16 hr, ?_⟩
      rw [ix, ci, cr', hip]
      refine ⟨pk_in (r * 5 + N) 80 (by omega), x1 _ ?_⟩
      refine nm_r (e' := nI N - 1) (Int32.sub_eq_add_neg (nI N) 1).symm ?_
      exact x2 post f (by omega) hp
    · intro lf cd bg kc pb pn yp ki le go mk cb mb ml la ps pd pt kw kh kf kz ky wo be ma wr post f b hf hb hp
      obtain ⟨f, rfl⟩ : ∃ f', f = f' + 1 := ⟨f - 1, by omega⟩
      rcases hb with ⟨e', _⟩ | ⟨p', l', e', rfl⟩
      · rw [e'] at hN; cases hN
      · rw [e] at e'
        obtain ⟨ee1, ee2⟩ := List.append_inj' e' rfl
        cases ee2
        have hy := (lk_ring h hr hAe).2.1
        refine br_f (nI_pos (by omega)) (y1 _ (yk_newestL c1 hr (fun z => ?_) (fun p'' l'' z => ?_)))
        · exact y2 post f (-1) (by omega) (Or.inl ⟨z, rfl⟩) hp
        · exact y2 post f (nI p''.2.1) (by omega) (Or.inr ⟨p'', l'', z, rfl⟩) hp
/-- a subscription ends, if it is there -/
theorem lk_end1 {B : Nat} {A : Nat → List bk_E} {g : Nat → Nat} {ob : Nat → Int32} {ol : Nat → Int32} {gc : Nat → Int32} {lc : Nat → Int32} {lr : Nat → Int32} {gv : Nat → Int32} {th : Nat → Int32} {hc : Nat → Int32} {hg : Nat → Int32} {hi : Nat → Int32} {ib : Nat → Int32} {il : Nat → Int32} {it : Nat → Int32} {qi : Nat → Int32} {qc : Nat → Int32} {ta : Nat → Int32} {wh : Nat → Int32} {od : Nat → Int32} {tg : Nat → Int32} {tr : Nat → Int32} {so : Nat → Int32} {bd : Nat → Int32} {fr : Int32} {en : Int32} (h : bk_C B A g st ol th pl md cr lr gv ib il it qi qc ta wh od tg tr so bd fr en) (rh : bk_RH A hi hg hc) (hB : B + 5 ≤ 100000000) {r : Nat} (hr : r < 16) :
    ∃ d : bk_DT, bk_C (B + 5) (zz_A d) (zz_g d) st (zz_ol d) (zz_th d) pl md cr (zz_lr d) (zz_gv d) (zz_ib d) (zz_il d) (zz_it d) (zz_qi d) (zz_qc d) (zz_ta d) (zz_wh d) (zz_od d) (zz_tg d) (zz_tr d) (zz_so d) (zz_bd d) (zz_fr d) (zz_en d) ∧ bk_RH (zz_A d) (zz_hi d) (zz_hg d) (zz_hc d) ∧ zz_th d = upd th r 0 ∧ (th r = 0 → d = (A, g, ob, ol, gc, lc, lr, gv, th, hc, hg, hi, ib, il, it, qi, qc, ta, wh, od, tg, tr, so, bd, fr, en)) ∧
      (∀ {lf cd bg pb pn xp fh fl fa mk cb mi mb ml pa kb kl kc co : Nat → Int32} {px : Int32} (post : SX → Prop), post (px, st, lf, cd, bg, zz_gv d, zz_ob d, zz_ol d, pb, pn, xp, fh, fl, fa, mk, cb, mi, mb, ml, pa, kb, kl, kc, zz_th d, pl, md, cr, zz_hc d, zz_hg d, zz_hi d, zz_ib d, zz_il d, zz_it d, zz_qi d, zz_qc d, zz_gc d, zz_lc d, zz_lr d, co) → wpX_endSubscription post (px, st, lf, cd, bg, gv, ob, ol, pb, pn, xp, fh, fl, fa, mk, cb, mi, mb, ml, pa, kb, kl, kc, th, pl, md, cr, hc, hg, hi, ib, il, it, qi, qc, gc, lc, lr, co) (nI r)) ∧
      (th r ≠ 0 → ∀ {lf cd bg kc pb pn yp ki le go mk cb mb ml la ps pd pt kw kh kf kz ky wo be : Nat → Int32} {ma wr : Int32} (post : SY → Prop), post (zz_fr d, zz_en d, ma, wr, st, lf, cd, zz_ta d, bg, kc, zz_ob d, zz_ol d, pb, pn, yp, ki, le, go, mk, cb, mb, ml, la, ps, pd, pt, kw, kh, kf, kz, ky, zz_th d, pl, md, cr, zz_gc d, zz_lc d, zz_lr d, zz_wh d, zz_od d, zz_tg d, zz_tr d, zz_so d, zz_bd d, wo, be) → wpY_endsOne post (fr, en, ma, wr, st, lf, cd, ta, bg, kc, ob, ol, pb, pn, yp, ki, le, go, mk, cb, mb, ml, la, ps, pd, pt, kw, kh, kf, kz, ky, th, pl, md, cr, gc, lc, lr, wh, od, tg, tr, so, bd, wo, be) (nI r)) := by
  have cr' : (nI r).toNatClampNeg = r := nI_clamp (by omega)
  by_cases e : th r = 0
  · refine ⟨(A, g, ob, ol, gc, lc, lr, gv, th, hc, hg, hi, ib, il, it, qi, qc, ta, wh, od, tg, tr, so, bd, fr, en), dk_mono h (by omega), rh, (bk_uid th r 0 e).symm, fun _ => rfl, ?_, fun z => absurd e z⟩
    intro lf cd bg pb pn xp fh fl fa mk cb mi mb ml pa kb kl kc co px post hp
    refine ⟨pk_in r 16 hr, ?_⟩
    rw [cr']
    exact br_t e hp
  · have h5 := (dk_len h).2 r hr
    obtain ⟨d, c2, a2, o2, t2, b4, b5, b6, x2, y2⟩ := lk_endLoop (ob := ob) (gc := gc) (lc := lc) (hc := hc) (hg := hg) (hi := hi) hr (A (3 + r)).length h rfl (fun i p z => ((rh r hr).2 i p z).1) (by omega)
    refine ⟨d, dk_mono c2 (by omega), ?_, t2, fun z => absurd z e, ?_, fun _ => ?_⟩
    · have w := bk_RH_nil rh hr
      intro z hz
      rw [b4, b5, b6]
      have w' := w z hz
      by_cases ez : z = r
      · subst ez
        rw [bk_set_s] at w'
        rw [a2]
        exact w'
      · rw [bk_set_n (show 3 + z ≠ 3 + r by omega)] at w'
        rw [o2 z hz ez]
        exact w'
    · intro lf cd bg pb pn xp fh fl fa mk cb mi mb ml pa kb kl kc co px post hp
      refine ⟨pk_in r 16 hr, ?_⟩
      rw [cr', (rh r hr).1]
      exact br_f e ⟨pk_in r 16 hr, nm_e ⟨(A (3 + r)).length + 1, x2 post _ (by omega) hp⟩⟩
    · intro lf cd bg kc pb pn yp ki le go mk cb mb ml la ps pd pt kw kh kf kz ky wo be ma wr post hp
      refine yk_newestL h hr (fun z => ?_) (fun p l z => ?_)
      · exact ⟨(A (3 + r)).length + 1, y2 post _ (-1) (by omega) (Or.inl ⟨z, rfl⟩) hp⟩
      · exact ⟨(A (3 + r)).length + 1, y2 post _ (nI p.2.1) (by omega) (Or.inr ⟨p, l, z, rfl⟩) hp⟩
end ENDS
end
section
/-! which hold: the two searches -/
def bk_V (s r0 i0 r i : Nat) : Prop := r < 16 ∧ r / 4 = s ∧ i < 5 ∧ (r < r0 ∨ (r = r0 ∧ i < i0))
section FIND
variable {B : Nat} {A : Nat → List bk_E} {g : Nat → Nat} {st lf cd bg gv ob ol pb pn xp fh fl fa mk cb mi mb ml pa kb kl kc th pl md cr hc hg hi ib il it qi qc gc lc lr co ta yp ki le go la ps pd pt kw kh kf kz ky wh od tg tr so bd wo be : Nat → Int32} {px fr en ma wr : Int32}
theorem xk_fh22 {post : Int32 → Prop} {J5 : Int32 → Int32 → Prop} {s s' n : Nat} (h : bk_C B A g st ol th pl md cr lr gv ib il it qi qc ta wh od tg tr so bd fr en) (rh : bk_RH A hi hg hc) (hB : B ≤ 100000000) (hs : s < 4) (hs' : s' < 4) (hn : n < 256)
    (hend : ∀ o, bk_XB A n (bk_V s (s * 4 + s') (A (3 + (s * 4 + s'))).length) o → J5 o (nI (s' + 1))) :
    ∀ (f i : Nat) (o : Int32), i ≤ (A (3 + (s * 4 + s'))).length → (A (3 + (s * 4 + s'))).length - i < f → bk_XB A n (bk_V s (s * 4 + s') i) o →
      wX_findHeld_22 post J5 (nI s) (nI n) (nI s') (nI (s * 4 + s')) px st lf cd bg gv ob ol pb pn xp fh fl fa mk cb mi mb ml pa kb kl kc th pl md cr hc hg hi ib il it qi qc gc lc lr co f o (nI i)
  | 0, i, o, _, h2, _ => by omega
  | f + 1, i, o, h1, h2, hb => by
    have hr : s * 4 + s' < 16 := by omega
    have h5 := (dk_len h).2 _ hr
    have hc' := (rh _ hr).1
    have cr' : (nI (s * 4 + s')).toNatClampNeg = s * 4 + s' := nI_clamp (by omega)
    refine ⟨pk_in (s * 4 + s') 16 hr, ?_⟩
    rw [cr', hc']
    refine pk_le _ i (fun g => nm_r (nI_1 s') ?_) (fun g => ?_)
    · have : i = (A (3 + (s * 4 + s'))).length := by omega
      subst this
      exact hend o hb
    · have ix : nI (s * 4 + s') * 5 + nI i = nI ((s * 4 + s') * 5 + i) := by rw [bn_mul, nI_add]
      have ci : (nI ((s * 4 + s') * 5 + i)).toNatClampNeg = (s * 4 + s') * 5 + i := nI_clamp (by omega)
      have i80 : vp_in (nI ((s * 4 + s') * 5 + i)) 80 := vp_in_nI (by omega) (by omega)
      have hp : (A (3 + (s * 4 + s')))[i]? = some ((A (3 + (s * 4 + s')))[i]) := List.getElem?_eq_some_iff.mpr ⟨g, rfl⟩
      generalize (A (3 + (s * 4 + s')))[i] = p at hp
      have hgp := ((rh _ hr).2 i p hp).2
      have hmem : p ∈ A (3 + (s * 4 + s')) := List.mem_of_getElem? hp
      have gl := (h.1.2.2.2.2.2.2.1 _ p hr hmem).1
      have gb := (h.2.2.2.1 ((s * 4 + s') / 4) (by omega)).2.2.1
      have eV : ∀ r i', bk_V s (s * 4 + s') (i + 1) r i' ↔ (bk_V s (s * 4 + s') i r i' ∨ (r = s * 4 + s' ∧ i' = i)) := by
        intro r i'
        unfold bk_V
        omega
      have next : ∀ o', bk_XB A n (bk_V s (s * 4 + s') (i + 1)) o' → wX_findHeld_22 post J5 (nI s) (nI n) (nI s') (nI (s * 4 + s')) px st lf cd bg gv ob ol pb pn xp fh fl fa mk cb mi mb ml pa kb kl kc th pl md cr hc hg hi ib il it qi qc gc lc lr co f o' (nI i + 1) := by
        intro o' ho'
        rw [nI_1]
        exact xk_fh22 h rh hB hs hs' hn hend f (i + 1) o' (by omega) (by omega) ho'
      refine nm_r ix ?_
      -- the last step: is it this tag, and older
      have last : ∀ z0 : Int32, (p.2.2 % 256 = n → z0 ≠ 0 → bk_XB A n (bk_V s (s * 4 + s') (i + 1)) (nI ((s * 4 + s') * 5 + i))) → (p.2.2 % 256 = n → z0 = 0 → bk_XB A n (bk_V s (s * 4 + s') (i + 1)) o) →
          wX_findHeld_68 post J5 (wX_findHeld_22 post J5 (nI s) (nI n) (nI s') (nI (s * 4 + s')) px st lf cd bg gv ob ol pb pn xp fh fl fa mk cb mi mb ml pa kb kl kc th pl md cr hc hg hi ib il it qi qc gc lc lr co f) (nI s) (nI n) o (nI s') (nI (s * 4 + s')) (nI i) (nI ((s * 4 + s') * 5 + i)) z0 px st lf cd bg gv ob ol pb pn xp fh fl fa mk cb mi mb ml pa kb kl kc th pl md cr hc hg hi ib il it qi qc gc lc lr co := by
        intro z0 hz1 hz0
        refine ⟨i80, ?_⟩
        rw [ci, hgp, bn_255 _ (by omega)]
        refine pk_eq (p.2.2 % 256) n (fun e => ?_) (fun e => nm_e (next o (xb_no hb hp e eV)))
        by_cases z : z0 = 0
        · exact br_t z (nm_e (next o (hz0 e z)))
        · exact br_f z (nm_e (next _ (hz1 e z)))
      by_cases ho : o < 0
      · refine br_t ho (last 1 (fun e _ => ?_) (fun _ z => absurd z (by decide)))
        have om : o = -1 := by
          rcases hb with ⟨x, _⟩ | ⟨r, i', q, v, _, x, _⟩
          · exact x
          · rw [x] at ho
            unfold bk_V at v
            exact absurd ho (nI_pos (by omega))
        rw [om] at hb
        exact xb_new hb hp e eV (fun r i' v => by unfold bk_V at v; omega)
      · obtain ⟨r, i', q, v, hq, eo, hqn, least⟩ := xb_at hb ho
        have hr16 : r < 16 := v.1
        have h5' := (dk_len h).2 r hr16
        have hi' := bk_lt_of_some hq
        have co : (nI (r * 5 + i')).toNatClampNeg = r * 5 + i' := nI_clamp (by omega)
        have hgq := ((rh _ hr16).2 i' q hq).2
        have gl' := (h.1.2.2.2.2.2.2.1 _ q hr16 (List.mem_of_getElem? hq)).1
        have gb' := (h.2.2.2.1 (r / 4) (by omega)).2.2.1
        refine br_f ho ⟨i80, by rw [eo]; exact pk_in (r * 5 + i') 80 (by omega), ?_⟩
        rw [ci, hgp, show hg o.toNatClampNeg = nI q.2.2 by rw [eo, co]; exact hgq]
        refine pk_le q.2.2 p.2.2 (fun e => last 0 (fun _ z => absurd rfl z) (fun _ _ => ?_)) (fun e => last 1 (fun e' _ => ?_) (fun _ z => absurd z (by decide)))
        · rw [eo]
          exact xb_ge v hq hqn least hp e eV
        · exact xb_lt (r := r) (i := i') least hp e' e eV
theorem xk_findHeld {post : Int32 → Prop} {s n : Nat} (h : bk_C B A g st ol th pl md cr lr gv ib il it qi qc ta wh od tg tr so bd fr en) (rh : bk_RH A hi hg hc) (hB : B ≤ 100000000) (hs : s < 4) (hn : n < 256) (hp : ∀ o, bk_XB A n (fun r _ => r / 4 = s ∧ r < 16) o → post o) : wpX_findHeld post (px, st, lf, cd, bg, gv, ob, ol, pb, pn, xp, fh, fl, fa, mk, cb, mi, mb, ml, pa, kb, kl, kc, th, pl, md, cr, hc, hg, hi, ib, il, it, qi, qc, gc, lc, lr, co) (nI s) (nI n) := by
  have key : ∀ (f s' : Nat) (o : Int32), s' ≤ 4 → 4 - s' < f → bk_XB A n (bk_V s (s * 4 + s') 0) o → wX_findHeld_5 post (nI s) (nI n) px st lf cd bg gv ob ol pb pn xp fh fl fa mk cb mi mb ml pa kb kl kc th pl md cr hc hg hi ib il it qi qc gc lc lr co f o (nI s') := by
    intro f
    induction f with
    | zero => intro s' o _ h2; omega
    | succ f ih =>
      intro s' o h1 h2 hb
      refine pk_le 4 s' (fun g => ?_) (fun g => ?_)
      · refine hp o (xb_ext hb ?_)
        intro r i p hq
        have hi' := bk_lt_of_some hq
        unfold bk_V
        constructor
        · intro z; exact ⟨z.2.1, z.1⟩
        · intro z
          have h5' := (dk_len h).2 r z.2
          omega
      · have ix : nI s * 4 + nI s' = nI (s * 4 + s') := by rw [bn_mul, nI_add]
        refine nm_r ix ⟨(A (3 + (s * 4 + s'))).length + 1, xk_fh22 h rh hB hs g hn (fun o' ho' => ?_) _ 0 o (by omega) (by omega) hb⟩
        refine ih (s' + 1) o' (by omega) (by omega) (xb_ext ho' ?_)
        intro r i p hq
        have hi' := bk_lt_of_some hq
        unfold bk_V
        constructor
        · intro z; omega
        · intro z
          refine ⟨z.1, z.2.1, z.2.2.1, ?_⟩
          rcases z.2.2.2 with w | w
          · by_cases e : r = s * 4 + s'
            · right; subst e; exact ⟨rfl, hi'⟩
            · left; omega
          · omega
  refine ⟨5, key 5 0 (-1) (by omega) (by omega) (xb_0 (fun r i v => ?_))⟩
  unfold bk_V at v
  omega
theorem yk_answer6 {post : SY → Prop} {s n : Nat} {x3 : Int32} (hs : s < 4)
    (hp : ∀ b, bk_Best (fun j => nI (3 + 4 * s) ≤ wh j ∧ wh j < nI (3 + 4 * s + 4) ∧ tg j = nI n) (fun j => (od j).toInt) 112 b →
      (((0 ≤ b → (vp_in b 112 ∧ (∀ x5, x5 = (wh b.toNatClampNeg) - 3 → (vp_in b 112 ∧ (∀ x6, x6 = od b.toNatClampNeg → (∃ n129 : Nat, wY_answer_129 post x3 x5 x6 n129 b 1 fr en ma wr st lf cd ta bg kc ob ol pb pn yp ki le go mk cb mb ml la ps pd pt kw kh kf kz ky th pl md cr gc lc lr wh od tg tr so bd wo be)))))) ∧ (¬ 0 ≤ b → (post (fr, en, ma, wr, st, lf, cd, ta, bg, kc, ob, ol, pb, pn, yp, ki, le, go, mk, cb, mb, ml, la, ps, pd, pt, kw, kh, kf, kz, ky, th, pl, md, cr, gc, lc, lr, wh, od, tg, tr, so, bd, wo, be)))))) :
    ∀ (f i : Nat) (b : Int32), i ≤ 112 → 112 - i < f → bk_Best (fun j => nI (3 + 4 * s) ≤ wh j ∧ wh j < nI (3 + 4 * s + 4) ∧ tg j = nI n) (fun j => (od j).toInt) i b → wY_answer_6 post (nI s) (nI n) x3 fr en ma wr st lf cd ta bg kc ob ol pb pn yp ki le go mk cb mb ml la ps pd pt kw kh kf kz ky th pl md cr gc lc lr wh od tg tr so bd wo be f b (nI i)
  | 0, i, b, h1, h2, _ => by omega
  | f + 1, i, b, h1, h2, hb => by
    have cl : (nI i).toNatClampNeg = i := nI_clamp (by omega)
    have e1 : 3 + 4 * nI s = nI (3 + 4 * s) := by rw [bn_mul2, bn_add2]
    have e2 : nI (3 + 4 * s) + 4 = nI (3 + 4 * s + 4) := bn_add _ 4
    have iv : i < 112 → vp_in (nI i) 112 := fun h => pk_in i 112 h
    have next : ∀ b', bk_Best (fun j => nI (3 + 4 * s) ≤ wh j ∧ wh j < nI (3 + 4 * s + 4) ∧ tg j = nI n) (fun j => (od j).toInt) (i + 1) b' → i < 112 → wY_answer_6 post (nI s) (nI n) x3 fr en ma wr st lf cd ta bg kc ob ol pb pn yp ki le go mk cb mb ml la ps pd pt kw kh kf kz ky th pl md cr gc lc lr wh od tg tr so bd wo be f b' (nI i + 1) := by
      intro b' hb' hi'
      rw [nI_1]
      exact yk_answer6 hs hp f (i + 1) b' (by omega) (by omega) hb'
    refine pk_le 112 i (fun g => ?_) (fun g => ⟨iv g, ?_⟩)
    · have : i = 112 := by omega
      subst this
      exact hp b hb
    · rw [cl, e1, e2]
      have no : ¬ (nI (3 + 4 * s) ≤ wh i ∧ wh i < nI (3 + 4 * s + 4) ∧ tg i = nI n) → wY_answer_61 post (wY_answer_6 post (nI s) (nI n) x3 fr en ma wr st lf cd ta bg kc ob ol pb pn yp ki le go mk cb mb ml la ps pd pt kw kh kf kz ky th pl md cr gc lc lr wh od tg tr so bd wo be f) (nI s) (nI n) x3 b (nI i) 0 fr en ma wr st lf cd ta bg kc ob ol pb pn yp ki le go mk cb mb ml la ps pd pt kw kh kf kz ky th pl md cr gc lc lr wh od tg tr so bd wo be := by
        intro z
        exact br_t rfl (nm_e (next b (bk_best_no hb z) g))
      by_cases w1 : wh i < nI (3 + 4 * s)
      · exact br_t w1 (no (fun z => Int32.not_lt.mpr z.1 w1))
      · refine br_f w1 ⟨iv g, ?_⟩
        by_cases w2 : nI (3 + 4 * s + 4) ≤ wh i
        · exact br_t w2 (no (fun z => Int32.not_lt.mpr w2 z.2.1))
        · refine br_f w2 ⟨iv g, ?_⟩
          by_cases w3 : tg i = nI n
          · refine br_t w3 (br_f (by decide) ?_)
            have P : nI (3 + 4 * s) ≤ wh i ∧ wh i < nI (3 + 4 * s + 4) ∧ tg i = nI n := ⟨Int32.not_lt.mp w1, Int32.not_le.mp w2, w3⟩
            by_cases nb : b < 0
            · exact br_t nb (nm_e (next (nI i) (bk_best_new (by omega) hb P nb) g))
            · obtain ⟨c, hc', rfl⟩ := bk_best_at hb nb
              refine br_f nb ⟨iv g, pk_in c 112 (by omega), ?_⟩
              rw [cl, nI_clamp (show c < 2 ^ 31 by omega)]
              by_cases q : od c ≤ od i
              · exact br_t q (nm_e (next (nI c) (bk_best_ge (by omega) hc' hb (Int32.le_iff_toInt_le.mp q)) g))
              · exact br_f q (nm_e (next (nI i) (bk_best_lt (by omega) hc' hb P (Int32.lt_iff_toInt_lt.mp (Int32.not_le.mp q))) g))
          · exact br_f w3 (no (fun z => w3 z.2.2))
end FIND
end
section
/-! taken and refused -/
theorem bk_cut_0 (f : Nat → Int32) (b i n : Nat) : bk_cut f b i n (i + n) = f := by
  funext j; unfold bk_cut; rw [if_neg (by omega)]
theorem bk_cut_o (f : Nat → Int32) (b i n e : Nat) : bk_cut f b i n e (b + e) = f (b + e) := by
  unfold bk_cut; rw [if_neg (by omega)]
theorem bk_cut_s (f : Nat → Int32) (b i n e : Nat) (h : i + n ≤ e) : upd (bk_cut f b i n e) (b + e - n) (f (b + e)) = bk_cut f b i n (e + 1) := by
  funext j
  unfold upd bk_cut
  by_cases x : j = b + e - n
  · rw [if_pos x, if_pos (by omega)]
    exact congrArg f (by omega)
  · rw [if_neg x]
    by_cases y : b + i ≤ j ∧ j + n < b + e
    · rw [if_pos y, if_pos (by omega)]
    · rw [if_neg y, if_neg (by omega)]
theorem bk_dlt {k : Nat} (h : k < 1000) : nI k + (-1) < nI k := by
  rw [Int32.lt_iff_toInt_lt, nI_toInt (by omega)]
  cases k with
  | zero => decide
  | succ k => rw [pk_m1, nI_toInt (by omega)]; omega
section FORGET
variable {B : Nat} {A : Nat → List bk_E} {g : Nat → Nat} {st lf cd bg gv ob ol pb pn xp fh fl fa mk cb mi mb ml pa kb kl kc th pl md cr hc hg hi ib il it qi qc gc lc lr co ta yp ki le go la ps pd pt kw kh kf kz ky wh od tg tr so bd wo be : Nat → Int32} {px fr en ma wr : Int32}
theorem xk_fg24 {post : SX → Prop} {r i n e : Nat} (hr : r < 16) (hn : 1 ≤ n) (he : e ≤ 5) (hc' : hc r = nI e) (hin : i + n ≤ e)
    (hp : post (px, st, lf, cd, bg, gv, ob, ol, pb, pn, xp, fh, fl, fa, mk, cb, mi, mb, ml, pa, kb, kl, kc, th, pl, md, cr, upd hc r (nI (e - n)), bk_cut hg (r * 5) i n e, bk_cut hi (r * 5) i n e, ib, il, it, qi, qc, gc, lc, lr, co)) :
    ∀ f k, i + n ≤ k → k ≤ e → e - k < f → wX_forgetHeld_24 post (nI r) (nI (r * 5 + e)) (nI n) px f (nI (r * 5 + k)) st lf cd bg gv ob ol pb pn xp fh fl fa mk cb mi mb ml pa kb kl kc th pl md cr hc (bk_cut hg (r * 5) i n k) (bk_cut hi (r * 5) i n k) ib il it qi qc gc lc lr co
  | 0, k, _, _, h => by omega
  | f + 1, k, h1, h2, h3 => by
    have cr' : (nI r).toNatClampNeg = r := nI_clamp (by omega)
    have ck : (nI (r * 5 + k)).toNatClampNeg = r * 5 + k := nI_clamp (by omega)
    have sk : nI (r * 5 + k) - nI n = nI (r * 5 + k - n) := pk_sub (by omega)
    have csk : (nI (r * 5 + k - n)).toNatClampNeg = r * 5 + k - n := nI_clamp (by omega)
    refine pk_le (r * 5 + e) (r * 5 + k) (fun g => ⟨pk_in r 16 hr, pk_in r 16 hr, ?_⟩) (fun g => ?_)
    · have : k = e := by omega
      subst this
      rw [cr', hc', pk_sub (by omega)]
      exact nm_e hp
    · rw [ck, sk, csk, bk_cut_o, bk_cut_o, bk_cut_s _ _ _ _ _ h1, bk_cut_s _ _ _ _ _ h1]
      exact ⟨vp_in_nI (by omega) (by omega), vp_in_nI (by omega) (by omega), nm_e ⟨vp_in_nI (by omega) (by omega), vp_in_nI (by omega) (by omega), nm_e (nm_r (nI_1 (r * 5 + k)) (xk_fg24 hr hn he hc' hin hp f (k + 1) (by omega) (by omega) (by omega)))⟩⟩
theorem xk_forget {post : SX → Prop} {r i n e : Nat} (hr : r < 16) (hn : 1 ≤ n) (he : e ≤ 5) (hc' : hc r = nI e) (hin : i + n ≤ e)
    (hp : post (px, st, lf, cd, bg, gv, ob, ol, pb, pn, xp, fh, fl, fa, mk, cb, mi, mb, ml, pa, kb, kl, kc, th, pl, md, cr, upd hc r (nI (e - n)), bk_cut hg (r * 5) i n e, bk_cut hi (r * 5) i n e, ib, il, it, qi, qc, gc, lc, lr, co)) : wpX_forgetHeld post (px, st, lf, cd, bg, gv, ob, ol, pb, pn, xp, fh, fl, fa, mk, cb, mi, mb, ml, pa, kb, kl, kc, th, pl, md, cr, hc, hg, hi, ib, il, it, qi, qc, gc, lc, lr, co) (nI r) (nI (r * 5 + i)) (nI (r * 5 + (i + n - 1))) := by
  have cr' : (nI r).toNatClampNeg = r := nI_clamp (by omega)
  have e1 : nI r * 5 + nI e = nI (r * 5 + e) := by rw [bn_mul, nI_add]
  have e2 : nI (r * 5 + (i + n - 1)) - nI (r * 5 + i) + 1 = nI n := by
    rw [pk_sub (by omega), nI_1]
    exact congrArg nI (by omega)
  have e3 : nI (r * 5 + (i + n - 1)) + 1 = nI (r * 5 + (i + n)) := by
    rw [nI_1]
    exact congrArg nI (by omega)
  have w := xk_fg24 (px := px) hr hn he hc' hin hp (e + 1) (i + n) (Nat.le_refl _) hin (by omega)
  rw [bk_cut_0, bk_cut_0] at w
  refine ⟨pk_in r 16 hr, ?_⟩
  rw [cr', hc', e1, e2, e3]
  exact nm_e (nm_e (nm_e ⟨e + 1, w⟩))
end FORGET
section SETTLE
variable {st pl md cr : Nat → Int32}
/-- one entry is taken (x3 = 0) or refused (x3 = 1) -/
theorem lk_set1 {B : Nat} {A : Nat → List bk_E} {g : Nat → Nat} {ob : Nat → Int32} {ol : Nat → Int32} {gc : Nat → Int32} {lc : Nat → Int32} {lr : Nat → Int32} {gv : Nat → Int32} {th : Nat → Int32} {hc : Nat → Int32} {hg : Nat → Int32} {hi : Nat → Int32} {ib : Nat → Int32} {il : Nat → Int32} {it : Nat → Int32} {qi : Nat → Int32} {qc : Nat → Int32} {ta : Nat → Int32} {wh : Nat → Int32} {od : Nat → Int32} {tg : Nat → Int32} {tr : Nat → Int32} {so : Nat → Int32} {bd : Nat → Int32} {fr : Int32} {en : Int32} (h : bk_C B A g st ol th pl md cr lr gv ib il it qi qc ta wh od tg tr so bd fr en) (hB : B + 1 ≤ 100000000) {r i : Nat} (hr : r < 16) {l1 l2 : List bk_E} {p : bk_E} (hA : A (3 + r) = l1 ++ p :: l2) (hi5 : i < 5) (hip : hi (r * 5 + i) = p.1) {x3 : Int32} (h3 : x3 = 0 ∨ x3 = 1) :
    ∃ d : bk_DT, bk_C (B + 1) (zz_A d) (zz_g d) st (zz_ol d) (zz_th d) pl md cr (zz_lr d) (zz_gv d) (zz_ib d) (zz_il d) (zz_it d) (zz_qi d) (zz_qc d) (zz_ta d) (zz_wh d) (zz_od d) (zz_tg d) (zz_tr d) (zz_so d) (zz_bd d) (zz_fr d) (zz_en d) ∧ zz_A d (3 + r) = l1 ++ l2 ∧ (∀ z, z < 16 → z ≠ r → zz_A d (3 + z) = A (3 + z)) ∧ zz_th d = th ∧ zz_hc d = hc ∧ zz_hg d = hg ∧ zz_hi d = hi ∧ (∀ z, z ∈ l1 ++ l2 → zz_od d z.2.1 = od z.2.1) ∧
      (∀ {lf cd bg pb pn xp fh fl fa mk cb mi mb ml pa kb kl kc co : Nat → Int32} {px : Int32} (post : SX → Prop) (x4 x6 : Int32) (f : Nat), ¬ nI (r * 5 + i) < x6 → wX_settle_46 post x3 x4 (nI r) x6 f (nI (r * 5 + i) + (-1)) px st lf cd bg (zz_gv d) (zz_ob d) (zz_ol d) pb pn xp fh fl fa mk cb mi mb ml pa kb kl kc (zz_th d) pl md cr (zz_hc d) (zz_hg d) (zz_hi d) (zz_ib d) (zz_il d) (zz_it d) (zz_qi d) (zz_qc d) (zz_gc d) (zz_lc d) (zz_lr d) co → wX_settle_46 post x3 x4 (nI r) x6 (f + 1) (nI (r * 5 + i)) px st lf cd bg gv ob ol pb pn xp fh fl fa mk cb mi mb ml pa kb kl kc th pl md cr hc hg hi ib il it qi qc gc lc lr co) ∧
      (∀ {lf cd bg kc pb pn yp ki le go mk cb mb ml la ps pd pt kw kh kf kz ky wo be : Nat → Int32} {ma wr : Int32} (post : SY → Prop) (x6 : Int32) (f : Nat), wY_answer_158 post (wY_answer_129 post x3 (nI r) x6 f) x3 (nI r) x6 (zz_fr d) (zz_en d) ma wr st lf cd (zz_ta d) bg kc (zz_ob d) (zz_ol d) pb pn yp ki le go mk cb mb ml la ps pd pt kw kh kf kz ky (zz_th d) pl md cr (zz_gc d) (zz_lc d) (zz_lr d) (zz_wh d) (zz_od d) (zz_tg d) (zz_tr d) (zz_so d) (zz_bd d) wo be → wY_answer_129 post x3 (nI r) x6 (f + 1) (nI p.2.1) 1 fr en ma wr st lf cd ta bg kc ob ol pb pn yp ki le go mk cb mb ml la ps pd pt kw kh kf kz ky th pl md cr gc lc lr wh od tg tr so bd wo be) := by
  have cr' : (nI r).toNatClampNeg = r := nI_clamp (by omega)
  have ci : (nI (r * 5 + i)).toNatClampNeg = r * 5 + i := nI_clamp (by omega)
  have i80 : vp_in (nI (r * 5 + i)) 80 := vp_in_nI (by omega) (by omega)
  obtain ⟨_, hy, t, hpl, ht, hk⟩ := lk_ring h hr hA
  have cy : (nI p.2.1).toNatClampNeg = p.2.1 := nI_clamp (by omega)
  rcases h3 with rfl | rfl
  · have w := dk_mono (dk_drop h (it' := it) (tr' := tr) hr hA (fun _ _ _ => rfl) (fun _ _ _ => rfl)) (B' := B + 1) (by omega)
    refine ⟨(bk_set A (3 + r) (l1 ++ l2), g, ob, ol, gc, lc, lr, gv, th, hc, hg, hi, ib, bk_fre il p.1, it, qi, qc, ta, upd wh p.2.1 (-1), od, tg, tr, so, bd, fr, en), w, bk_set_s, fun z hz hn => bk_set_n (by omega), rfl, rfl, rfl, rfl, fun _ _ => rfl, ?_, ?_⟩
    · intro lf cd bg pb pn xp fh fl fa mk cb mi mb ml pa kb kl kc co px post x4 x6 f hx hp
      refine br_f hx ⟨i80, ?_⟩
      rw [ci, hip]
      refine nm_e ?_
      unfold bk_fre at hp
      rcases hk with ⟨_, e⟩ | ⟨_, q, k, hq, e, _⟩
      · rw [if_pos e] at hp
        exact br_t e (nm_e hp)
      · rw [if_neg (by rw [e]; exact bk_nm1 (by omega))] at hp
        refine br_f (by rw [e]; exact bk_nm1 (by omega)) (br_t rfl ⟨by rw [e]; exact pk_in q 104 hq, nm_e (nm_e hp)⟩)
    · intro lf cd bg kc pb pn yp ki le go mk cb mb ml la ps pd pt kw kh kf kz ky wo be ma wr post x6 f hp
      refine br_f (by decide) (br_t rfl ⟨pk_in _ 112 hy, ?_⟩)
      rw [cy]
      exact nm_e hp
  · obtain ⟨d, c1, a1, o1, t1, b1, b2, b3, od1, x1, y1⟩ := lk_back1 (ob := ob) (gc := gc) (lc := lc) (hc := hc) (hg := hg) (hi := hi) h hB hr hA
    refine ⟨d, c1, a1, o1, t1, b1, b2, b3, od1, ?_, ?_⟩
    · intro lf cd bg pb pn xp fh fl fa mk cb mi mb ml pa kb kl kc co px post x4 x6 f hx hp
      refine br_f hx ⟨i80, ?_⟩
      rw [ci, hip]
      refine nm_e ?_
      rcases x1 with ⟨e, x1⟩ | ⟨q, hq, e, x1⟩
      · refine br_t e (nm_e ?_)
        exact x1 (fun u => match u with | (px, st, lf, cd, bg, gv, ob, ol, pb, pn, xp, fh, fl, fa, mk, cb, mi, mb, ml, pa, kb, kl, kc, th, pl, md, cr, hc, hg, hi, ib, il, it, qi, qc, gc, lc, lr, co) => wX_settle_46 post 1 x4 (nI r) x6 f (nI (r * 5 + i) + (-1)) px st lf cd bg gv ob ol pb pn xp fh fl fa mk cb mi mb ml pa kb kl kc th pl md cr hc hg hi ib il it qi qc gc lc lr co) hp
      · rw [e]
        have cq : (nI q).toNatClampNeg = q := nI_clamp (by omega)
        refine br_f (bk_nm1 (by omega)) (br_f (by decide) ⟨pk_in q 104 hq, pk_in q 104 hq, ?_⟩)
        rw [cq, cr']
        exact nm_e ⟨pk_in r 16 hr, x1 _ (nm_e hp)⟩
    · intro lf cd bg kc pb pn yp ki le go mk cb mb ml la ps pd pt kw kh kf kz ky wo be ma wr post x6 f hp
      exact br_f (by decide) (br_f (by decide) (y1 _ hp))
/-- with MODE 2: this one and those held for longer -/
theorem lk_set2 {r : Nat} (hr : r < 16) {x3 T : Int32} (h3 : x3 = 0 ∨ x3 = 1) (hm : md r = 2) : ∀ (N : Nat) {B : Nat} {A : Nat → List bk_E} {g : Nat → Nat} {ob : Nat → Int32} {ol : Nat → Int32} {gc : Nat → Int32} {lc : Nat → Int32} {lr : Nat → Int32} {gv : Nat → Int32} {th : Nat → Int32} {hc : Nat → Int32} {hg : Nat → Int32} {hi : Nat → Int32} {ib : Nat → Int32} {il : Nat → Int32} {it : Nat → Int32} {qi : Nat → Int32} {qc : Nat → Int32} {ta : Nat → Int32} {wh : Nat → Int32} {od : Nat → Int32} {tg : Nat → Int32} {tr : Nat → Int32} {so : Nat → Int32} {bd : Nat → Int32} {fr : Int32} {en : Int32} {l1 l2 : List bk_E} {p : bk_E}, bk_C B A g st ol th pl md cr lr gv ib il it qi qc ta wh od tg tr so bd fr en → A (3 + r) = l1 ++ p :: l2 → l1.length = N → (∀ i z, (l1 ++ [p])[i]? = some z → hi (r * 5 + i) = z.1) →
      (∀ z, z ∈ l1 → od z.2.1 < T) → (∀ z, z ∈ l2 → ¬ od z.2.1 < T) → B + (N + 1) ≤ 100000000 →
    ∃ d : bk_DT, bk_C (B + (N + 1)) (zz_A d) (zz_g d) st (zz_ol d) (zz_th d) pl md cr (zz_lr d) (zz_gv d) (zz_ib d) (zz_il d) (zz_it d) (zz_qi d) (zz_qc d) (zz_ta d) (zz_wh d) (zz_od d) (zz_tg d) (zz_tr d) (zz_so d) (zz_bd d) (zz_fr d) (zz_en d) ∧ zz_A d (3 + r) = l2 ∧ (∀ z, z < 16 → z ≠ r → zz_A d (3 + z) = A (3 + z)) ∧ zz_th d = th ∧ zz_hc d = hc ∧ zz_hg d = hg ∧ zz_hi d = hi ∧
      (∀ {lf cd bg pb pn xp fh fl fa mk cb mi mb ml pa kb kl kc co : Nat → Int32} {px : Int32} (post : SX → Prop) (x4 : Int32) (f : Nat), N + 1 < f → wpX_forgetHeld (fun u => match u with | (px, st, lf, cd, bg, gv, ob, ol, pb, pn, xp, fh, fl, fa, mk, cb, mi, mb, ml, pa, kb, kl, kc, th, pl, md, cr, hc, hg, hi, ib, il, it, qi, qc, gc, lc, lr, co) => post (px, st, lf, cd, bg, gv, ob, ol, pb, pn, xp, fh, fl, fa, mk, cb, mi, mb, ml, pa, kb, kl, kc, th, pl, md, cr, hc, hg, hi, ib, il, it, qi, qc, gc, lc, lr, co)) (px, st, lf, cd, bg, zz_gv d, zz_ob d, zz_ol d, pb, pn, xp, fh, fl, fa, mk, cb, mi, mb, ml, pa, kb, kl, kc, zz_th d, pl, md, cr, zz_hc d, zz_hg d, zz_hi d, zz_ib d, zz_il d, zz_it d, zz_qi d, zz_qc d, zz_gc d, zz_lc d, zz_lr d, co) (nI r) (nI (r * 5)) x4 → wX_settle_46 post x3 x4 (nI r) (nI (r * 5)) f (nI (r * 5 + N)) px st lf cd bg gv ob ol pb pn xp fh fl fa mk cb mi mb ml pa kb kl kc th pl md cr hc hg hi ib il it qi qc gc lc lr co) ∧
      (∀ {lf cd bg kc pb pn yp ki le go mk cb mb ml la ps pd pt kw kh kf kz ky wo be : Nat → Int32} {ma wr : Int32} (post : SY → Prop) (f : Nat), N + 1 < f → post (zz_fr d, zz_en d, ma, wr, st, lf, cd, zz_ta d, bg, kc, zz_ob d, zz_ol d, pb, pn, yp, ki, le, go, mk, cb, mb, ml, la, ps, pd, pt, kw, kh, kf, kz, ky, zz_th d, pl, md, cr, zz_gc d, zz_lc d, zz_lr d, zz_wh d, zz_od d, zz_tg d, zz_tr d, zz_so d, zz_bd d, wo, be) → wY_answer_129 post x3 (nI r) T f (nI p.2.1) 1 fr en ma wr st lf cd ta bg kc ob ol pb pn yp ki le go mk cb mb ml la ps pd pt kw kh kf kz ky th pl md cr gc lc lr wh od tg tr so bd wo be) := by
  have cr' : (nI r).toNatClampNeg = r := nI_clamp (by omega)
  intro N
  induction N with
  | zero =>
    intro B A g ob ol gc lc lr gv th hc hg hi ib il it qi qc ta wh od tg tr so bd fr en l1 l2 p h hA hl hhi q1 q2 hB
    have e0 : l1 = [] := List.length_eq_zero_iff.mp hl
    subst e0
    obtain ⟨d, c1, a1, o1, t1, b1, b2, b3, od1, x1, y1⟩ := lk_set1 (i := 0) (ob := ob) (gc := gc) (lc := lc) (hc := hc) (hg := hg) (hi := hi) h (by omega) hr hA (by omega) (hhi 0 p rfl) h3
    refine ⟨d, c1, a1, o1, t1, b1, b2, b3, ?_, ?_⟩
    · intro lf cd bg pb pn xp fh fl fa mk cb mi mb ml pa kb kl kc co px post x4 f hf hp
      obtain ⟨f, rfl⟩ : ∃ f', f = f' + 1 + 1 := ⟨f - 2, by omega⟩
      exact x1 post x4 (nI (r * 5)) (f + 1) (nI_nlt (by omega) (by omega)) (br_t (bk_dlt (by omega)) hp)
    · intro lf cd bg kc pb pn yp ki le go mk cb mb ml la ps pd pt kw kh kf kz ky wo be ma wr post f hf hp
      obtain ⟨f, rfl⟩ : ∃ f', f = f' + 1 + 1 := ⟨f - 2, by omega⟩
      refine y1 post T (f + 1) ⟨pk_in r 16 hr, ?_⟩
      rw [cr']
      refine br_t hm (yk_belowL (l1 := []) (l2 := l2) c1 hr a1 (fun z hz => absurd hz List.not_mem_nil) (fun z hz => by rw [od1 z hz]; exact q2 z hz) (fun _ => ?_) (fun p' l' e => by simp at e))
      exact br_t bk_m1lt (br_t rfl hp)
  | succ N ih =>
    intro B A g ob ol gc lc lr gv th hc hg hi ib il it qi qc ta wh od tg tr so bd fr en l1 l2 p h hA hl hhi q1 q2 hB
    have h5 := (dk_len h).2 r hr
    rw [hA] at h5
    simp only [List.length_append, List.length_cons] at h5
    rcases List.eq_nil_or_concat l1 with e0 | ⟨l, p', e0⟩
    · rw [e0] at hl; cases hl
    rw [List.concat_eq_append] at e0
    subst e0
    have hl' : l.length = N := by rw [List.length_append, List.length_singleton] at hl; omega
    obtain ⟨d1, c1, a1, o1, t1, b1, b2, b3, od1, x1, y1⟩ := lk_set1 (i := N + 1) (ob := ob) (gc := gc) (lc := lc) (hc := hc) (hg := hg) (hi := hi) h (by omega) hr hA (by omega) (hhi (N + 1) p (by rw [List.getElem?_append_right (by omega), hl, Nat.sub_self]; rfl)) h3
    have a1' : zz_A d1 (3 + r) = l ++ p' :: l2 := by rw [a1, List.append_assoc]; rfl
    obtain ⟨d, c2, a2, o2, t2, b4, b5, b6, x2, y2⟩ := ih (ob := zz_ob d1) (gc := zz_gc d1) (lc := zz_lc d1) (hc := zz_hc d1) (hg := zz_hg d1) (hi := zz_hi d1) c1 a1' hl' (by
      intro i z hz
      rw [b3]
      refine hhi i z ?_
      rw [List.getElem?_append_left (bk_lt_of_some hz)]
      exact hz) (fun z hz => by rw [od1 z (List.mem_append_left _ (List.mem_append_left _ hz))]; exact q1 z (List.mem_append_left _ hz)) (fun z hz => by rw [od1 z (List.mem_append_right _ hz)]; exact q2 z hz) (by omega)
    refine ⟨d, by rw [Nat.add_assoc, Nat.add_comm 1 (N + 1)] at c2; exact c2, a2, fun z hz hn => by rw [o2 z hz hn, o1 z hz hn], by rw [t2, t1], by rw [b4, b1], by rw [b5, b2], by rw [b6, b3], ?_, ?_⟩
    · intro lf cd bg pb pn xp fh fl fa mk cb mi mb ml pa kb kl kc co px post x4 f hf hp
      obtain ⟨f, rfl⟩ : ∃ f', f = f' + 1 := ⟨f - 1, by omega⟩
      refine x1 post x4 (nI (r * 5)) f (nI_nlt (by omega) (by omega)) ?_
      rw [show r * 5 + (N + 1) = (r * 5 + N) + 1 by omega, pk_m1]
      exact x2 post x4 f (by omega) hp
    · intro lf cd bg kc pb pn yp ki le go mk cb mb ml la ps pd pt kw kh kf kz ky wo be ma wr post f hf hp
      obtain ⟨f, rfl⟩ : ∃ f', f = f' + 1 := ⟨f - 1, by omega⟩
      refine y1 post T f ⟨pk_in r 16 hr, ?_⟩
      rw [cr']
      refine br_t hm (yk_belowL (l1 := l ++ [p']) (l2 := l2) c1 hr a1 (fun z hz => by rw [od1 z (List.mem_append_left _ hz)]; exact q1 z hz) (fun z hz => by rw [od1 z (List.mem_append_right _ hz)]; exact q2 z hz) (fun e => by simp at e) (fun p'' l'' e => ?_))
      obtain ⟨_, e2⟩ := List.append_inj' e rfl
      cases e2
      have hy := (lk_ring c1 hr a1').2.1
      exact br_f (nI_pos (by omega)) (y2 post f (by omega) hp)
/-- taken, refused -/
theorem lk_settle {B : Nat} {A : Nat → List bk_E} {g : Nat → Nat} {ob : Nat → Int32} {ol : Nat → Int32} {gc : Nat → Int32} {lc : Nat → Int32} {lr : Nat → Int32} {gv : Nat → Int32} {th : Nat → Int32} {hc : Nat → Int32} {hg : Nat → Int32} {hi : Nat → Int32} {ib : Nat → Int32} {il : Nat → Int32} {it : Nat → Int32} {qi : Nat → Int32} {qc : Nat → Int32} {ta : Nat → Int32} {wh : Nat → Int32} {od : Nat → Int32} {tg : Nat → Int32} {tr : Nat → Int32} {so : Nat → Int32} {bd : Nat → Int32} {fr : Int32} {en : Int32} (h : bk_C B A g st ol th pl md cr lr gv ib il it qi qc ta wh od tg tr so bd fr en) (rh : bk_RH A hi hg hc) (hB : B + 5 ≤ 100000000) {s n : Nat} (hs : s < 4) (hn : n < 256) {x3 : Int32} (h3 : x3 = 0 ∨ x3 = 1) :
    ∃ d : bk_DT, bk_C (B + 5) (zz_A d) (zz_g d) st (zz_ol d) (zz_th d) pl md cr (zz_lr d) (zz_gv d) (zz_ib d) (zz_il d) (zz_it d) (zz_qi d) (zz_qc d) (zz_ta d) (zz_wh d) (zz_od d) (zz_tg d) (zz_tr d) (zz_so d) (zz_bd d) (zz_fr d) (zz_en d) ∧ bk_RH (zz_A d) (zz_hi d) (zz_hg d) (zz_hc d) ∧ zz_th d = th ∧
      (∀ {lf cd bg pb pn xp fh fl fa mk cb mi mb ml pa kb kl kc co : Nat → Int32} {px : Int32} (post : SX → Prop), post (px, st, lf, cd, bg, zz_gv d, zz_ob d, zz_ol d, pb, pn, xp, fh, fl, fa, mk, cb, mi, mb, ml, pa, kb, kl, kc, zz_th d, pl, md, cr, zz_hc d, zz_hg d, zz_hi d, zz_ib d, zz_il d, zz_it d, zz_qi d, zz_qc d, zz_gc d, zz_lc d, zz_lr d, co) → wpX_settle post (px, st, lf, cd, bg, gv, ob, ol, pb, pn, xp, fh, fl, fa, mk, cb, mi, mb, ml, pa, kb, kl, kc, th, pl, md, cr, hc, hg, hi, ib, il, it, qi, qc, gc, lc, lr, co) (nI s) (nI n) x3) ∧
      (∀ {lf cd bg kc pb pn yp ki le go mk cb mb ml la ps pd pt kw kh kf kz ky wo be : Nat → Int32} {ma wr : Int32} (post : SY → Prop), post (zz_fr d, zz_en d, ma, wr, st, lf, cd, zz_ta d, bg, kc, zz_ob d, zz_ol d, pb, pn, yp, ki, le, go, mk, cb, mb, ml, la, ps, pd, pt, kw, kh, kf, kz, ky, zz_th d, pl, md, cr, zz_gc d, zz_lc d, zz_lr d, zz_wh d, zz_od d, zz_tg d, zz_tr d, zz_so d, zz_bd d, wo, be) → wpY_answer post (fr, en, ma, wr, st, lf, cd, ta, bg, kc, ob, ol, pb, pn, yp, ki, le, go, mk, cb, mb, ml, la, ps, pd, pt, kw, kh, kf, kz, ky, th, pl, md, cr, gc, lc, lr, wh, od, tg, tr, so, bd, wo, be) (nI s) (nI n) x3) := by
  obtain ⟨b0, o0, hY0, hX0⟩ := bk_ans_ex h.1 hs hn (A := A)
  rcases bk_ans h.1 hs hn hY0 hX0 with ⟨rfl, rfl⟩ | ⟨r, l1, p, l2, hr, hrs, hA, rfl, rfl⟩
  · -- none holds such a one
    refine ⟨(A, g, ob, ol, gc, lc, lr, gv, th, hc, hg, hi, ib, il, it, qi, qc, ta, wh, od, tg, tr, so, bd, fr, en), dk_mono h (by omega), rh, rfl, ?_, ?_⟩
    · intro lf cd bg pb pn xp fh fl fa mk cb mi mb ml pa kb kl kc co px post hp
      refine xk_findHeld h rh (by omega) hs hn (fun o ho => ?_)
      rcases bk_ans h.1 hs hn hY0 ho with ⟨_, rfl⟩ | ⟨r, l1, p, l2, hr, hrs, hA, e, _⟩
      · exact br_f (by decide) hp
      · have hy := (lk_ring h hr hA).2.1
        exact absurd e.symm (bk_nm1 (by omega))
    · intro lf cd bg kc pb pn yp ki le go mk cb mb ml la ps pd pt kw kh kf kz ky wo be ma wr post hp
      refine ⟨113, yk_answer6 hs (fun b hb => ?_) 113 0 (-1) (by omega) (by omega) bk_best0⟩
      rcases bk_ans h.1 hs hn hb hX0 with ⟨rfl, _⟩ | ⟨r, l1, p, l2, hr, hrs, hA, _, e⟩
      · exact br_f (by decide) hp
      · have h5 := (dk_len h).2 r hr
        rw [hA] at h5
        simp only [List.length_append, List.length_cons] at h5
        exact absurd e.symm (bk_nm1 (by omega))
  · have h5 := (dk_len h).2 r hr
    have hlen : (A (3 + r)).length = l1.length + (l2.length + 1) := by rw [hA]; simp only [List.length_append, List.length_cons]
    obtain ⟨_, hy, t, hpl, ht, hk⟩ := lk_ring h hr hA
    have pw := h.1.2.1 (3 + r) (by omega)
    have cr' : (nI r).toNatClampNeg = r := nI_clamp (by omega)
    have cy : (nI p.2.1).toNatClampNeg = p.2.1 := nI_clamp (by omega)
    have hw := (h.1.1 (3 + r) p (by omega) (by rw [hA]; exact List.mem_append_right l1 List.mem_cons_self)).2.1
    have d5 : nI (r * 5 + l1.length) / 5 = nI r := (pk_div (a := r * 5 + l1.length) (d := 5) (by omega) (by decide) (by decide)).trans (congrArg nI (by omega))
    have e3 : nI (3 + r) - 3 = nI r := (pk_sub (a := 3 + r) (b := 3) (by omega)).trans (congrArg nI (by omega))
    have e5 : nI r * 5 = nI (r * 5) := bn_mul r 5
    -- the two searches end here
    have xo : ∀ {lf cd bg pb pn xp fh fl fa mk cb mi mb ml pa kb kl kc co : Nat → Int32} {px : Int32} (post : SX → Prop), (((md r = 2 → ∃ n46, wX_settle_46 post x3 (nI (r * 5 + l1.length)) (nI r) (nI (r * 5)) n46 (nI (r * 5 + l1.length)) px st lf cd bg gv ob ol pb pn xp fh fl fa mk cb mi mb ml pa kb kl kc th pl md cr hc hg hi ib il it qi qc gc lc lr co)) ∧ (¬ md r = 2 → ∃ n46, wX_settle_46 post x3 (nI (r * 5 + l1.length)) (nI r) (nI (r * 5 + l1.length)) n46 (nI (r * 5 + l1.length)) px st lf cd bg gv ob ol pb pn xp fh fl fa mk cb mi mb ml pa kb kl kc th pl md cr hc hg hi ib il it qi qc gc lc lr co)) → wpX_settle post (px, st, lf, cd, bg, gv, ob, ol, pb, pn, xp, fh, fl, fa, mk, cb, mi, mb, ml, pa, kb, kl, kc, th, pl, md, cr, hc, hg, hi, ib, il, it, qi, qc, gc, lc, lr, co) (nI s) (nI n) x3 := by
      intro lf cd bg pb pn xp fh fl fa mk cb mi mb ml pa kb kl kc co px post hp
      refine xk_findHeld h rh (by omega) hs hn (fun o ho => ?_)
      have eo : o = nI (r * 5 + l1.length) := by
        rcases bk_ans h.1 hs hn hY0 ho with ⟨e, _⟩ | ⟨r', l1', p', l2', hr', hrs', hA', e, eo⟩
        · exact absurd e (bk_nm1 (by omega))
        · have hy' := (lk_ring h hr' hA').2.1
          have ey : p.2.1 = p'.2.1 := (nI_eq (by omega) (by omega)).mp e
          obtain ⟨er, ep⟩ := bk_inj h.1 (L := 3 + r) (M := 3 + r') (by omega) (by omega) (by rw [hA]; exact List.mem_append_right l1 List.mem_cons_self) (by rw [hA']; exact List.mem_append_right l1' List.mem_cons_self) ey
          have er : r = r' := by omega
          subst er
          subst ep
          rw [hA] at pw hA'
          rw [eo, bk_pos (fun p => (od p.2.1).toInt) l1 l1' pw hA']
      rw [eo]
      refine br_t (nI_pos' (by omega)) ⟨by decide, nm_r d5 ⟨pk_in r 16 hr, ?_⟩⟩
      rw [cr', e5]
      exact ⟨fun z => nm_e (hp.1 z), hp.2⟩
    have yo : ∀ {lf cd bg kc pb pn yp ki le go mk cb mb ml la ps pd pt kw kh kf kz ky wo be : Nat → Int32} {ma wr : Int32} (post : SY → Prop), (∃ n129, wY_answer_129 post x3 (nI r) (od p.2.1) n129 (nI p.2.1) 1 fr en ma wr st lf cd ta bg kc ob ol pb pn yp ki le go mk cb mb ml la ps pd pt kw kh kf kz ky th pl md cr gc lc lr wh od tg tr so bd wo be) → wpY_answer post (fr, en, ma, wr, st, lf, cd, ta, bg, kc, ob, ol, pb, pn, yp, ki, le, go, mk, cb, mb, ml, la, ps, pd, pt, kw, kh, kf, kz, ky, th, pl, md, cr, gc, lc, lr, wh, od, tg, tr, so, bd, wo, be) (nI s) (nI n) x3 := by
      intro lf cd bg kc pb pn yp ki le go mk cb mb ml la ps pd pt kw kh kf kz ky wo be ma wr post hp
      refine ⟨113, yk_answer6 hs (fun b hb => ?_) 113 0 (-1) (by omega) (by omega) bk_best0⟩
      have eb : b = nI p.2.1 := by
        rcases bk_ans h.1 hs hn hb hX0 with ⟨_, e⟩ | ⟨r', l1', p', l2', hr', hrs', hA', e, eo⟩
        · exact absurd e (bk_nm1 (by omega))
        · have h5' := (dk_len h).2 r' hr'
          rw [hA'] at h5'
          simp only [List.length_append, List.length_cons] at h5'
          have eo := (nI_eq (by omega) (by omega)).mp eo
          have er : r' = r := by omega
          subst er
          have ll : l1.length = l1'.length := by omega
          have q : l1 ++ p :: l2 = l1' ++ p' :: l2' := by rw [← hA, ← hA']
          obtain ⟨_, q2⟩ := List.append_inj q ll
          injection q2 with q3 q4
          rw [e, q3]
      rw [eb]
      refine br_t (nI_pos' (by omega)) ⟨pk_in _ 112 hy, ?_⟩
      rw [cy, hw]
      exact nm_r e3 ⟨pk_in _ 112 hy, nm_e hp⟩
    have q1 : ∀ z, z ∈ l1 → od z.2.1 < od p.2.1 := by
      intro z hz
      rw [hA, List.pairwise_append] at pw
      exact Int32.lt_iff_toInt_lt.mpr (pw.2.2 z hz p List.mem_cons_self)
    have q2 : ∀ z, z ∈ l2 → ¬ od z.2.1 < od p.2.1 := by
      intro z hz x
      rw [hA, List.pairwise_append, List.pairwise_cons] at pw
      have := pw.2.1.1 z hz
      rw [Int32.lt_iff_toInt_lt] at x
      omega
    by_cases m2 : md r = 2
    · obtain ⟨d, c1, a1, o1, t1, b1, b2, b3, x1, y1⟩ := lk_set2 (ob := ob) (gc := gc) (lc := lc) (hc := hc) (hg := hg) (hi := hi) hr h3 m2 l1.length h hA rfl (by
        intro i z hz
        refine ((rh r hr).2 i z ?_).1
        rw [hA, show l1 ++ p :: l2 = (l1 ++ [p]) ++ l2 by simp, List.getElem?_append_left (bk_lt_of_some hz)]
        exact hz) q1 q2 (by omega)
      have rc := bk_RH_cut rh (dk_len h) (l1 := []) (l2 := l1 ++ [p]) (l3 := l2) hr (by rw [hA]; simp)
      refine ⟨(zz_A d, zz_g d, zz_ob d, zz_ol d, zz_gc d, zz_lc d, zz_lr d, zz_gv d, zz_th d, upd hc r (nI ((A (3 + r)).length - (l1.length + 1))), bk_cut hg (r * 5) 0 (l1.length + 1) (A (3 + r)).length, bk_cut hi (r * 5) 0 (l1.length + 1) (A (3 + r)).length, zz_ib d, zz_il d, zz_it d, zz_qi d, zz_qc d, zz_ta d, zz_wh d, zz_od d, zz_tg d, zz_tr d, zz_so d, zz_bd d, zz_fr d, zz_en d), dk_mono c1 (by omega), ?_, t1, ?_, ?_⟩
      · intro z hz
        have w := rc z hz
        rw [List.length_append, List.length_singleton, List.length_nil] at w
        have e7 : 0 + l2.length = (A (3 + r)).length - (l1.length + 1) := by omega
        rw [e7] at w
        by_cases ez : z = r
        · subst ez
          rw [bk_set_s, List.nil_append] at w
          show _ ∧ ∀ i p, (zz_A d (3 + z))[i]? = some p → _
          rw [a1]
          exact w
        · rw [bk_set_n (show 3 + z ≠ 3 + r by omega)] at w
          show _ ∧ ∀ i p, (zz_A d (3 + z))[i]? = some p → _
          rw [o1 z hz ez]
          exact w
      · intro lf cd bg pb pn xp fh fl fa mk cb mi mb ml pa kb kl kc co px post hp
        refine xo post (br_t m2 ⟨l1.length + 2, x1 post _ _ (by omega) ?_⟩)
        have w := xk_forget (post := fun u => match u with | (px, st, lf, cd, bg, gv, ob, ol, pb, pn, xp, fh, fl, fa, mk, cb, mi, mb, ml, pa, kb, kl, kc, th, pl, md, cr, hc, hg, hi, ib, il, it, qi, qc, gc, lc, lr, co) => post (px, st, lf, cd, bg, gv, ob, ol, pb, pn, xp, fh, fl, fa, mk, cb, mi, mb, ml, pa, kb, kl, kc, th, pl, md, cr, hc, hg, hi, ib, il, it, qi, qc, gc, lc, lr, co)) (r := r) (i := 0) (n := l1.length + 1) (e := (A (3 + r)).length) hr (by omega) (by omega) (hc := zz_hc d) (hg := zz_hg d) (hi := zz_hi d) (by rw [b1]; exact (rh r hr).1) (by omega) (by rw [b1, b2, b3]; exact hp)
        rw [show 0 + (l1.length + 1) - 1 = l1.length by omega] at w
        exact w
      · intro lf cd bg kc pb pn yp ki le go mk cb mb ml la ps pd pt kw kh kf kz ky wo be ma wr post hp
        exact yo post ⟨l1.length + 2, y1 post _ (by omega) hp⟩
    · obtain ⟨d, c1, a1, o1, t1, b1, b2, b3, od1, x1, y1⟩ := lk_set1 (i := l1.length) (ob := ob) (gc := gc) (lc := lc) (hc := hc) (hg := hg) (hi := hi) h (by omega) hr hA (by omega) (by
        refine ((rh r hr).2 l1.length p ?_).1
        rw [hA, List.getElem?_append_right (Nat.le_refl _), Nat.sub_self]
        rfl) h3
      have rc := bk_RH_cut rh (dk_len h) (l1 := l1) (l2 := [p]) (l3 := l2) hr (by rw [hA]; simp)
      refine ⟨(zz_A d, zz_g d, zz_ob d, zz_ol d, zz_gc d, zz_lc d, zz_lr d, zz_gv d, zz_th d, upd hc r (nI ((A (3 + r)).length - 1)), bk_cut hg (r * 5) l1.length 1 (A (3 + r)).length, bk_cut hi (r * 5) l1.length 1 (A (3 + r)).length, zz_ib d, zz_il d, zz_it d, zz_qi d, zz_qc d, zz_ta d, zz_wh d, zz_od d, zz_tg d, zz_tr d, zz_so d, zz_bd d, zz_fr d, zz_en d), dk_mono c1 (by omega), ?_, t1, ?_, ?_⟩
      · intro z hz
        have w := rc z hz
        rw [List.length_singleton] at w
        have e7 : l1.length + l2.length = (A (3 + r)).length - 1 := by omega
        rw [e7] at w
        by_cases ez : z = r
        · subst ez
          rw [bk_set_s] at w
          show _ ∧ ∀ i p, (zz_A d (3 + z))[i]? = some p → _
          rw [a1]
          exact w
        · rw [bk_set_n (show 3 + z ≠ 3 + r by omega)] at w
          show _ ∧ ∀ i p, (zz_A d (3 + z))[i]? = some p → _
          rw [o1 z hz ez]
          exact w
      · intro lf cd bg pb pn xp fh fl fa mk cb mi mb ml pa kb kl kc co px post hp
        refine xo post (br_f m2 ⟨2, x1 post _ _ 1 (nI_nlt (Nat.le_refl _) (by omega)) (br_t (bk_dlt (by omega)) ?_)⟩)
        have w := xk_forget (post := fun u => match u with | (px, st, lf, cd, bg, gv, ob, ol, pb, pn, xp, fh, fl, fa, mk, cb, mi, mb, ml, pa, kb, kl, kc, th, pl, md, cr, hc, hg, hi, ib, il, it, qi, qc, gc, lc, lr, co) => post (px, st, lf, cd, bg, gv, ob, ol, pb, pn, xp, fh, fl, fa, mk, cb, mi, mb, ml, pa, kb, kl, kc, th, pl, md, cr, hc, hg, hi, ib, il, it, qi, qc, gc, lc, lr, co)) (r := r) (i := l1.length) (n := 1) (e := (A (3 + r)).length) hr (by omega) (by omega) (hc := zz_hc d) (hg := zz_hg d) (hi := zz_hi d) (by rw [b1]; exact (rh r hr).1) (by omega) (by rw [b1, b2, b3]; exact hp)
        rw [show l1.length + 1 - 1 = l1.length by omega] at w
        exact w
      · intro lf cd bg kc pb pn yp ki le go mk cb mb ml la ps pd pt kw kh kf kz ky wo be ma wr post hp
        refine yo post ⟨2, y1 post _ 1 ⟨pk_in r 16 hr, ?_⟩⟩
        rw [cr']
        exact br_f m2 (br_t bk_m1lt (br_t rfl hp))
end SETTLE
end
section
/-! sending -/
def bk_mv (f : Nat → Int32) (b : Nat) (w : Nat → Int32) : Nat → Nat → Int32
  | 0 => f
  | n + 1 => upd (bk_mv f b w n) (b + n) (w n)
theorem bk_mv_o (f : Nat → Int32) (b : Nat) (w : Nat → Int32) : ∀ n k, (k < b ∨ b + n ≤ k) → bk_mv f b w n k = f k
  | 0, _, _ => rfl
  | n + 1, k, h => by
    unfold bk_mv
    rw [pk_un (by omega)]
    exact bk_mv_o f b w n k (by omega)
theorem bk_mv_i (f : Nat → Int32) (b : Nat) (w : Nat → Int32) : ∀ n j, j < n → bk_mv f b w n (b + j) = w j
  | 0, j, h => by omega
  | n + 1, j, h => by
    unfold bk_mv
    by_cases e : j = n
    · subst e; exact pk_us
    · rw [pk_un (by omega)]
      exact bk_mv_i f b w n j (by omega)
theorem bk_mv_congr (f : Nat → Int32) (b : Nat) (w w' : Nat → Int32) : ∀ n, (∀ j, j < n → w j = w' j) → bk_mv f b w n = bk_mv f b w' n
  | 0, _ => rfl
  | n + 1, h => by
    unfold bk_mv
    rw [bk_mv_congr f b w w' n (fun j hj => h j (by omega)), h n (by omega)]
section SEND
variable {B : Nat} {A : Nat → List bk_E} {g : Nat → Nat} {st lf cd bg gv ob ol pb pn xp fh fl fa mk cb mi mb ml pa kb kl kc th pl md cr hc hg hi ib il it qi qc gc lc lr co ta yp ki le go la ps pd pt kw kh kf kz ky wh od tg tr so bd wo be : Nat → Int32} {px fr en ma wr : Int32}
theorem xk_freeItem {post : Int32 → Prop} {q : Nat} (hq : q < 104) (h0 : il q = 0) (hl : ∀ j, j < q → il j ≠ 0) (hp : post (nI q)) : wpX_freeItem post (px, st, lf, cd, bg, gv, ob, ol, pb, pn, xp, fh, fl, fa, mk, cb, mi, mb, ml, pa, kb, kl, kc, th, pl, md, cr, hc, hg, hi, ib, il, it, qi, qc, gc, lc, lr, co) := by
  have key : ∀ f j, j ≤ q → q - j < f → wX_freeItem_2 post px st lf cd bg gv ob ol pb pn xp fh fl fa mk cb mi mb ml pa kb kl kc th pl md cr hc hg hi ib il it qi qc gc lc lr co f (nI j) := by
    intro f
    induction f with
    | zero => intro j _ h; omega
    | succ f ih =>
      intro j h1 h2
      have cj : (nI j).toNatClampNeg = j := nI_clamp (by omega)
      refine br_f (nI_ge (b := 104) (by omega) (by omega)) ⟨pk_in j 104 (by omega), ?_⟩
      rw [cj]
      by_cases e : j = q
      · subst e; exact br_t h0 hp
      · exact br_f (hl j (by omega)) (nm_r (nI_1 j) (ih (j + 1) (by omega) (by omega)))
  exact ⟨q + 1, key (q + 1) 0 (by omega) (by omega)⟩
theorem xk_freeNone {post : Int32 → Prop} (hl : ∀ j, j < 104 → il j ≠ 0) (hp : post (-1)) : wpX_freeItem post (px, st, lf, cd, bg, gv, ob, ol, pb, pn, xp, fh, fl, fa, mk, cb, mi, mb, ml, pa, kb, kl, kc, th, pl, md, cr, hc, hg, hi, ib, il, it, qi, qc, gc, lc, lr, co) := by
  have key : ∀ f j, j ≤ 104 → 104 - j < f → wX_freeItem_2 post px st lf cd bg gv ob ol pb pn xp fh fl fa mk cb mi mb ml pa kb kl kc th pl md cr hc hg hi ib il it qi qc gc lc lr co f (nI j) := by
    intro f
    induction f with
    | zero => intro j _ h; omega
    | succ f ih =>
      intro j h1 h2
      have cj : (nI j).toNatClampNeg = j := nI_clamp (by omega)
      refine pk_le 104 j (fun _ => hp) (fun g => ⟨pk_in j 104 g, ?_⟩)
      rw [cj]
      exact br_f (hl j g) (nm_r (nI_1 j) (ih (j + 1) (by omega) (by omega)))
  exact ⟨105, key 105 0 (by omega) (by omega)⟩
theorem yk_make33 {post : Int32 → SY → Prop} {y n : Nat} (hy : y < 112) (hn : n ≤ 16) (hp : post (nI y) (fr, en, ma, wr, st, lf, cd, ta, bg, kc, ob, ol, pb, pn, yp, ki, le, go, mk, cb, mb, ml, la, ps, pd, pt, kw, kh, kf, kz, ky, th, pl, md, cr, gc, lc, lr, wh, od, tg, tr, so, bk_mv bd (16 * y) (fun k => wo (3 + k)) n, wo, be)) :
    ∀ f k, k ≤ n → n - k < f → wY_make_33 post (nI n) (nI y) fr en ma wr f (nI k) st lf cd ta bg kc ob ol pb pn yp ki le go mk cb mb ml la ps pd pt kw kh kf kz ky th pl md cr gc lc lr wh od tg tr so (bk_mv bd (16 * y) (fun k => wo (3 + k)) k) wo be
  | 0, k, _, h => by omega
  | f + 1, k, h1, h2 => by
    have e1 : 3 + nI k = nI (3 + k) := bn_add2 k 3
    have e2 : 16 * nI y + nI k = nI (16 * y + k) := by rw [bn_mul2, nI_add]
    have c1 : (nI (3 + k)).toNatClampNeg = 3 + k := nI_clamp (by omega)
    have c2 : (nI (16 * y + k)).toNatClampNeg = 16 * y + k := nI_clamp (by omega)
    refine pk_le n k (fun g => ?_) (fun g => ?_)
    · have : k = n := by omega
      subst this
      exact hp
    · rw [e1, e2, c1, c2]
      exact ⟨vp_in_nI (by omega) (by omega), vp_in_nI (by omega) (by omega), nm_e (nm_r (nI_1 k) (yk_make33 hy hn hp f (k + 1) (by omega) (by omega)))⟩
theorem yk_make {post : Int32 → SY → Prop} {y n : Nat} (hy : y < 112) (hn : n ≤ 16) (hw : wh y = -1) (hl : ∀ j, j < y → ¬ wh j < 0) (hp : post (nI y) (fr, en, ma, wr, st, lf, cd, ta, bg, kc, ob, ol, pb, pn, yp, ki, le, go, mk, cb, mb, ml, la, ps, pd, pt, kw, kh, kf, kz, ky, th, pl, md, cr, gc, lc, lr, wh, od, tg, upd tr y 0, upd so y (nI n), bk_mv bd (16 * y) (fun k => wo (3 + k)) n, wo, be)) : wpY_make post (fr, en, ma, wr, st, lf, cd, ta, bg, kc, ob, ol, pb, pn, yp, ki, le, go, mk, cb, mb, ml, la, ps, pd, pt, kw, kh, kf, kz, ky, th, pl, md, cr, gc, lc, lr, wh, od, tg, tr, so, bd, wo, be) (nI n) := by
  have key : ∀ f j, j ≤ y → y - j < f → wY_make_2 post (nI n) fr en ma wr st lf cd ta bg kc ob ol pb pn yp ki le go mk cb mb ml la ps pd pt kw kh kf kz ky th pl md cr gc lc lr wh od tg tr so bd wo be f (nI j) := by
    intro f
    induction f with
    | zero => intro j _ h; omega
    | succ f ih =>
      intro j h1 h2
      have cj : (nI j).toNatClampNeg = j := nI_clamp (by omega)
      refine ⟨pk_in j 112 (by omega), ?_⟩
      rw [cj]
      by_cases e : j = y
      · subst e
        refine br_t (by rw [hw]; exact bk_m1lt) ⟨pk_in j 112 hy, nm_e ⟨pk_in j 112 hy, nm_e ⟨n + 1, ?_⟩⟩⟩
        exact yk_make33 (tr := upd tr j 0) (so := upd so j (nI n)) hy hn hp (n + 1) 0 (by omega) (by omega)
      · exact br_f (hl j (by omega)) (nm_r (nI_1 j) (ih (j + 1) (by omega) (by omega)))
  exact ⟨y + 1, key (y + 1) 0 (by omega) (by omega)⟩
theorem xk_sq78 {post : SX → Prop} {p t q n c : Nat} (hp' : p < 28) (ht : t < 3) (hq : q < 104) (hn : n ≤ 16) (hc' : qc t = nI c) (hc8 : c < 8)
    (hp : post (px, st, lf, cd, bg, gv, ob, ol, pb, pn, xp, fh, fl, fa, mk, cb, mi, mb, ml, pa, kb, kl, kc, th, pl, md, cr, hc, hg, hi, bk_mv ib (q * 16) (fun k => kb (p * 19 + 3 + k)) n, il, it, upd qi (t * 8 + c) (nI q), upd qc t (nI (c + 1)), gc, lc, lr, co)) :
    ∀ f k, k ≤ n → n - k < f → wX_sendToQueue_78 post (nI (p * 19)) (nI t) (nI q) (nI n) px f (nI k) st lf cd bg gv ob ol pb pn xp fh fl fa mk cb mi mb ml pa kb kl kc th pl md cr hc hg hi (bk_mv ib (q * 16) (fun k => kb (p * 19 + 3 + k)) k) il it qi qc gc lc lr co
  | 0, k, _, h => by omega
  | f + 1, k, h1, h2 => by
    have ct : (nI t).toNatClampNeg = t := nI_clamp (by omega)
    have e1 : nI (p * 19) + 3 + nI k = nI (p * 19 + 3 + k) := by rw [bn_add, nI_add]
    have e2 : nI q * 16 + nI k = nI (q * 16 + k) := by rw [bn_mul, nI_add]
    have e3 : nI t * 8 + nI c = nI (t * 8 + c) := by rw [bn_mul, nI_add]
    have c1 : (nI (p * 19 + 3 + k)).toNatClampNeg = p * 19 + 3 + k := nI_clamp (by omega)
    have c2 : (nI (q * 16 + k)).toNatClampNeg = q * 16 + k := nI_clamp (by omega)
    have c3 : (nI (t * 8 + c)).toNatClampNeg = t * 8 + c := nI_clamp (by omega)
    refine pk_le n k (fun g => ⟨pk_in t 3 ht, ?_⟩) (fun g => ?_)
    · have : k = n := by omega
      subst this
      rw [ct, hc', e3, c3, nI_1]
      exact ⟨vp_in_nI (by omega) (by omega), nm_e ⟨pk_in t 3 ht, pk_in t 3 ht, nm_e hp⟩⟩
    · rw [e1, e2, c1, c2]
      exact ⟨vp_in_nI (by omega) (by omega), vp_in_nI (by omega) (by omega), nm_e (nm_r (nI_1 k) (xk_sq78 hp' ht hq hn hc' hc8 hp f (k + 1) (by omega) (by omega)))⟩
end SEND
section SEND2
variable {st pl md cr : Nat → Int32}
theorem bk_freeYL {B : Nat} {A : Nat → List bk_E} {g : Nat → Nat} {ol th lr gv ib il it qi qc ta wh od tg tr so bd : Nat → Int32} {fr en : Int32} (h : bk_C B A g st ol th pl md cr lr gv ib il it qi qc ta wh od tg tr so bd fr en) : ∃ y, y < 112 ∧ wh y = -1 ∧ ∀ j, j < y → ¬ wh j < 0 := by
  obtain ⟨y, ⟨hy, hw⟩, hl⟩ := pk_least _ (bk_freeY h.1)
  refine ⟨y, hy, hw, fun j hj x => ?_⟩
  rcases h.1.2.2.1 j (by omega) with w | ⟨L, p, hL, hp, rfl⟩
  · exact hl j hj ⟨by omega, w⟩
  · rw [(h.1.1 L p hL hp).2.1] at x
    exact absurd x (nI_pos (by omega))
theorem lk_sendQ {B : Nat} {A : Nat → List bk_E} {g : Nat → Nat} {ob : Nat → Int32} {ol : Nat → Int32} {gc : Nat → Int32} {lc : Nat → Int32} {lr : Nat → Int32} {gv : Nat → Int32} {th : Nat → Int32} {hc : Nat → Int32} {hg : Nat → Int32} {hi : Nat → Int32} {ib : Nat → Int32} {il : Nat → Int32} {it : Nat → Int32} {qi : Nat → Int32} {qc : Nat → Int32} {ta : Nat → Int32} {wh : Nat → Int32} {od : Nat → Int32} {tg : Nat → Int32} {tr : Nat → Int32} {so : Nat → Int32} {bd : Nat → Int32} {fr : Int32} {en : Int32} (h : bk_C B A g st ol th pl md cr lr gv ib il it qi qc ta wh od tg tr so bd fr en) (rh : bk_RH A hi hg hc) (hB : B + 1 ≤ 100000000) {t n : Nat} (ht : t < 3) (hn1 : 1 ≤ n) (hn : n ≤ 16) (w : Nat → Int32) :
    ∃ d : bk_DT, bk_C (B + 1) (zz_A d) (zz_g d) st (zz_ol d) (zz_th d) pl md cr (zz_lr d) (zz_gv d) (zz_ib d) (zz_il d) (zz_it d) (zz_qi d) (zz_qc d) (zz_ta d) (zz_wh d) (zz_od d) (zz_tg d) (zz_tr d) (zz_so d) (zz_bd d) (zz_fr d) (zz_en d) ∧ bk_RH (zz_A d) (zz_hi d) (zz_hg d) (zz_hc d) ∧ zz_th d = th ∧
      (∀ {lf cd bg pb pn xp fh fl fa mk cb mi mb ml pa kb kl kc co : Nat → Int32} {px : Int32} (post : SX → Prop) (p : Nat), p < 28 → kb (p * 19 + 1) = nI t → kl p = nI (n + 3) → (∀ j, j < n → kb (p * 19 + 3 + j) = w j) → post (px, st, lf, cd, bg, zz_gv d, zz_ob d, zz_ol d, pb, pn, xp, fh, fl, fa, mk, cb, mi, mb, ml, pa, kb, kl, kc, zz_th d, pl, md, cr, zz_hc d, zz_hg d, zz_hi d, zz_ib d, zz_il d, zz_it d, zz_qi d, zz_qc d, zz_gc d, zz_lc d, zz_lr d, co) → wpX_sendToQueue post (px, st, lf, cd, bg, gv, ob, ol, pb, pn, xp, fh, fl, fa, mk, cb, mi, mb, ml, pa, kb, kl, kc, th, pl, md, cr, hc, hg, hi, ib, il, it, qi, qc, gc, lc, lr, co) (nI p)) ∧
      (∀ {lf cd bg kc pb pn yp ki le go mk cb mb ml la ps pd pt kw kh kf kz ky wo be : Nat → Int32} {ma wr : Int32} (post : SY → Prop), (∀ j, j < n → wo (3 + j) = w j) → post (zz_fr d, zz_en d, ma, wr, st, lf, cd, zz_ta d, bg, kc, zz_ob d, zz_ol d, pb, pn, yp, ki, le, go, mk, cb, mb, ml, la, ps, pd, pt, kw, kh, kf, kz, ky, zz_th d, pl, md, cr, zz_gc d, zz_lc d, zz_lr d, zz_wh d, zz_od d, zz_tg d, zz_tr d, zz_so d, zz_bd d, wo, be) → wpY_send post (fr, en, ma, wr, st, lf, cd, ta, bg, kc, ob, ol, pb, pn, yp, ki, le, go, mk, cb, mb, ml, la, ps, pd, pt, kw, kh, kf, kz, ky, th, pl, md, cr, gc, lc, lr, wh, od, tg, tr, so, bd, wo, be) (nI t) (nI n)) := by
  have ct : (nI t).toNatClampNeg = t := nI_clamp (by omega)
  have hqc := (h.2.1 t ht).1
  have h8 := (dk_len h).1 t ht
  by_cases e8 : (A t).length = 8
  · refine ⟨(A, g, ob, ol, gc, upd lc t (lc t + 1), lr, gv, th, hc, hg, hi, ib, il, it, qi, qc, ta, wh, od, tg, tr, so, bd, fr, en), dk_mono h (by omega), rh, rfl, ?_, ?_⟩
    · intro lf cd bg pb pn xp fh fl fa mk cb mi mb ml pa kb kl kc co px post p hp28 k1 k2 k3 hp
      have cp : (nI p).toNatClampNeg = p := nI_clamp (by omega)
      have e19 : nI p * 19 = nI (p * 19) := bn_mul p 19
      have c1 : (nI (p * 19 + 1)).toNatClampNeg = p * 19 + 1 := nI_clamp (by omega)
      have q8 : qc (nI t).toNatClampNeg = 8 := by rw [ct, hqc, e8]; rfl
      have fin : wX_sendToQueue_37 post (nI t) px st lf cd bg gv ob ol pb pn xp fh fl fa mk cb mi mb ml pa kb kl kc th pl md cr hc hg hi ib il it qi qc gc lc lr co := by
        simp only [wX_sendToQueue_37, ct, forall_eq]
        exact ⟨pk_in t 6 (by omega), pk_in t 6 (by omega), hp⟩
      refine nm_r e19 ?_
      rw [nI_1, c1, k1]
      refine ⟨vp_in_nI (by omega) (by omega), nm_e ?_⟩
      by_cases free : ∃ q, q < 104 ∧ il q = 0
      · obtain ⟨q, ⟨hq, h0⟩, hl⟩ := pk_least _ free
        exact xk_freeItem hq h0 (fun j hj z => hl j hj ⟨by omega, z⟩) ⟨pk_in t 3 ht, br_t q8 fin⟩
      · exact xk_freeNone (fun j hj z => free ⟨j, hj, z⟩) ⟨pk_in t 3 ht, br_t q8 fin⟩
    · intro lf cd bg kc pb pn yp ki le go mk cb mb ml la ps pd pt kw kh kf kz ky wo be ma wr post k3 hp
      refine br_f (nI_ge (b := 3) (by omega) (by omega)) (yk_countL h (by omega) (br_t (by rw [e8]; rfl) ⟨pk_in t 6 (by omega), pk_in t 6 (by omega), ?_⟩))
      rw [ct]
      exact nm_e hp
  · obtain ⟨y, hy, hw, hyl⟩ := bk_freeYL h
    obtain ⟨q, ⟨hq, h0⟩, hql⟩ := pk_least _ (bk_freeX h.1 ht (by omega))
    have r := dk_send h rh (by omega) (n := n) (y := y) (q := q) (it' := upd it q 0) (ib' := bk_mv ib (q * 16) w n) (tr' := upd tr y 0) (so' := upd so y (nI n)) (bd' := bk_mv bd (16 * y) w n) ht (by omega) hn1 hn hq h0 hy hw
      (fun z hz ne => ⟨pk_un ne, fun j hj => bk_mv_o ib (q * 16) w n _ (by omega)⟩)
      (fun z hz ne => ⟨pk_un ne, pk_un ne, fun j hj => bk_mv_o bd (16 * y) w n _ (by omega)⟩) pk_us pk_us pk_us
      (fun j hj => by rw [bk_mv_i ib (q * 16) w n j hj, bk_mv_i bd (16 * y) w n j hj])
    refine ⟨(bk_set A t (A t ++ [(nI q, y, 0)]), g, ob, ol, gc, lc, lr, gv, th, hc, hg, hi, bk_mv ib (q * 16) w n, upd il q (nI n), upd it q 0, upd qi (t * 8 + (A t).length) (nI q), upd qc t (nI ((A t).length + 1)), ta, upd wh y (nI t), upd od y (en + 1), tg, upd tr y 0, upd so y (nI n), bk_mv bd (16 * y) w n, fr, en + 1), r.1, r.2, rfl, ?_, ?_⟩
    · intro lf cd bg pb pn xp fh fl fa mk cb mi mb ml pa kb kl kc co px post p hp28 k1 k2 k3 hp
      have cp : (nI p).toNatClampNeg = p := nI_clamp (by omega)
      have cq : (nI q).toNatClampNeg = q := nI_clamp (by omega)
      have e19 : nI p * 19 = nI (p * 19) := bn_mul p 19
      have c1 : (nI (p * 19 + 1)).toNatClampNeg = p * 19 + 1 := nI_clamp (by omega)
      have e3 : nI (n + 3) - 3 = nI n := (pk_sub (a := n + 3) (b := 3) (by omega)).trans (congrArg nI (by omega))
      refine nm_r e19 ?_
      rw [nI_1, c1, k1]
      refine ⟨vp_in_nI (by omega) (by omega), nm_e (xk_freeItem hq h0 (fun j hj z => hql j hj ⟨by omega, z⟩) ⟨pk_in t 3 ht, ?_⟩)⟩
      rw [ct, hqc]
      refine br_f (fun e => e8 ((nI_eq (a := (A t).length) (b := 8) (by omega) (by omega)).mp e)) (br_f (bk_nm1 (by omega)) ⟨pk_in p 28 hp28, ?_⟩)
      rw [cp, k2, cq, e3]
      refine nm_e ⟨pk_in q 104 hq, nm_e ⟨pk_in q 104 hq, nm_e ⟨n + 1, ?_⟩⟩⟩
      have m := bk_mv_congr ib (q * 16) (fun k => kb (p * 19 + 3 + k)) w n k3
      exact xk_sq78 (il := upd il q (nI n)) (it := upd it q 0) hp28 ht hq hn hqc (by omega) (by rw [m]; exact hp) (n + 1) 0 (by omega) (by omega)
    · intro lf cd bg kc pb pn yp ki le go mk cb mb ml la ps pd pt kw kh kf kz ky wo be ma wr post k3 hp
      have cy : (nI y).toNatClampNeg = y := nI_clamp (by omega)
      have m := bk_mv_congr bd (16 * y) (fun k => wo (3 + k)) w n k3
      refine br_f (nI_ge (b := 3) (by omega) (by omega)) (yk_countL h (by omega) (br_f (fun e => e8 ((nI_eq (a := (A t).length) (b := 8) (by omega) (by omega)).mp e)) (yk_make hy hn hw hyl ?_)))
      rw [m]
      refine ⟨pk_in y 112 hy, ?_⟩
      rw [cy]
      exact nm_e (nm_e ⟨pk_in y 112 hy, nm_e hp⟩)
end SEND2
end
section
section STREAM
variable {st pl md cr : Nat → Int32}
/-- an item sent to stream t goes to ring r, if it can -/
theorem lk_ring1 {B : Nat} {A : Nat → List bk_E} {g : Nat → Nat} {ob : Nat → Int32} {ol : Nat → Int32} {gc : Nat → Int32} {lc : Nat → Int32} {lr : Nat → Int32} {gv : Nat → Int32} {th : Nat → Int32} {hc : Nat → Int32} {hg : Nat → Int32} {hi : Nat → Int32} {ib : Nat → Int32} {il : Nat → Int32} {it : Nat → Int32} {qi : Nat → Int32} {qc : Nat → Int32} {ta : Nat → Int32} {wh : Nat → Int32} {od : Nat → Int32} {tg : Nat → Int32} {tr : Nat → Int32} {so : Nat → Int32} {bd : Nat → Int32} {fr : Int32} {en : Int32} (h : bk_C B A g st ol th pl md cr lr gv ib il it qi qc ta wh od tg tr so bd fr en) (rh : bk_RH A hi hg hc) (hB : B + 1 ≤ 100000000) {t n r : Nat} (ht : 3 ≤ t) (ht6 : t < 6) (hn : n ≤ 16) (hr : r < 16) (w : Nat → Int32) :
    ∃ d : bk_DT, bk_C (B + 1) (zz_A d) (zz_g d) st (zz_ol d) (zz_th d) pl md cr (zz_lr d) (zz_gv d) (zz_ib d) (zz_il d) (zz_it d) (zz_qi d) (zz_qc d) (zz_ta d) (zz_wh d) (zz_od d) (zz_tg d) (zz_tr d) (zz_so d) (zz_bd d) (zz_fr d) (zz_en d) ∧ bk_RH (zz_A d) (zz_hi d) (zz_hg d) (zz_hc d) ∧ zz_th d = th ∧
      (∀ {lf cd bg pb pn xp fh fl fa mk cb mi mb ml pa kb kl kc co : Nat → Int32} {px : Int32} (post : SX → Prop) (p f : Nat), p < 28 → (∀ j, j < n → kb (p * 19 + 3 + j) = w j) → wX_sendToStream_27 post (nI (p * 19)) (nI t) (nI n) f (nI (r + 1)) px st lf cd bg (zz_gv d) (zz_ob d) (zz_ol d) pb pn xp fh fl fa mk cb mi mb ml pa kb kl kc (zz_th d) pl md cr (zz_hc d) (zz_hg d) (zz_hi d) (zz_ib d) (zz_il d) (zz_it d) (zz_qi d) (zz_qc d) (zz_gc d) (zz_lc d) (zz_lr d) co → wX_sendToStream_27 post (nI (p * 19)) (nI t) (nI n) (f + 1) (nI r) px st lf cd bg gv ob ol pb pn xp fh fl fa mk cb mi mb ml pa kb kl kc th pl md cr hc hg hi ib il it qi qc gc lc lr co) ∧
      (∀ {lf cd bg kc pb pn yp ki le go mk cb mb ml la ps pd pt kw kh kf kz ky wo be : Nat → Int32} {ma wr : Int32} (post : SY → Prop) (f : Nat), (∀ j, j < n → wo (3 + j) = w j) → wY_send_66 post (nI t) (nI n) f (nI (r + 1)) (zz_fr d) (zz_en d) ma wr st lf cd (zz_ta d) bg kc (zz_ob d) (zz_ol d) pb pn yp ki le go mk cb mb ml la ps pd pt kw kh kf kz ky (zz_th d) pl md cr (zz_gc d) (zz_lc d) (zz_lr d) (zz_wh d) (zz_od d) (zz_tg d) (zz_tr d) (zz_so d) (zz_bd d) wo be → wY_send_66 post (nI t) (nI n) (f + 1) (nI r) fr en ma wr st lf cd ta bg kc ob ol pb pn yp ki le go mk cb mb ml la ps pd pt kw kh kf kz ky th pl md cr gc lc lr wh od tg tr so bd wo be) := by
  by_cases can : bk_Can A st ol th pl md cr r t n
  rotate_left
  · refine ⟨(A, g, ob, ol, gc, lc, lr, gv, th, hc, hg, hi, ib, il, it, qi, qc, ta, wh, od, tg, tr, so, bd, fr, en), dk_mono h (by omega), rh, rfl, ?_, ?_⟩
    · intro lf cd bg pb pn xp fh fl fa mk cb mi mb ml pa kb kl kc co px post p f hp28 k3 hp
      refine br_f (nI_ge (b := 16) hr (by omega)) (xk_canTake h rh hr ht6 (by omega) (fun c => absurd c can) (fun _ => ?_))
      exact br_t rfl (nm_r (nI_1 r) hp)
    · intro lf cd bg kc pb pn yp ki le go mk cb mb ml la ps pd pt kw kh kf kz ky wo be ma wr post f k3 hp
      refine br_f (nI_ge (b := 16) hr (by omega)) (yk_can h hr ht6 (by omega) (fun c => absurd c can) (fun _ => ?_))
      exact br_t rfl (nm_r (nI_1 r) hp)
  · obtain ⟨y, hy, hw, hyl⟩ := bk_freeYL h
    obtain ⟨k1, k2, k3, ⟨a, k4, k5⟩, k6⟩ := id can
    have sess := h.2.2.2.1 (r / 4) (by omega)
    have hG : g (r / 4) < 2 ^ 31 := by have := sess.2.2.1; omega
    have g1 := h.2.2.1 r hr
    have hl5 := (dk_len h).2 r hr
    rcases g1 with ⟨z, _⟩ | ⟨_, t', m, c, j1, j2, j3, j4, j5, j6, j7, j8, j9⟩
    · rw [k1] at z; exact absurd z (by decide)
    have hY : ∀ z, z < 112 → z ≠ y → upd tr y 0 z = tr z ∧ upd so y (nI n) z = so z ∧ ∀ j, j < 16 → bk_mv bd (16 * y) w n (16 * z + j) = bd (16 * z + j) :=
      fun z hz ne => ⟨pk_un ne, pk_un ne, fun j hj => bk_mv_o bd (16 * y) w n _ (by omega)⟩
    have wfY : bk_wf (bk_hd ob (r / 4) a n r (g (r / 4))) (r / 4) (a + 5) (fun k => bk_mv bd (16 * y) w n (16 * y + k)) n = bk_wf (bk_hd ob (r / 4) a n r (g (r / 4))) (r / 4) (a + 5) w n :=
      bk_wf_congr _ _ _ _ _ n (fun j hj => bk_mv_i bd (16 * y) w n j hj)
    by_cases m0 : m = 0
    · subst m0
      have q := dk_giveS0 (a := a + 5 + n) (t := t) (tr' := upd tr y 0) (so' := upd so y (nI n)) (bd' := bk_mv bd (16 * y) w n) h (by omega) hr (by omega) hw hY
      refine ⟨(A, bk_up g (r / 4), bk_wf (bk_hd ob (r / 4) a n r (g (r / 4))) (r / 4) (a + 5) w n, upd ol (r / 4) (nI (a + 5 + n)), upd gc t (gc t + 1), lc, upd lr t (nI r), upd gv (r / 4) (nI (g (r / 4) + 1)), th, hc, hg, hi, ib, il, it, qi, qc, upd ta (r / 4) (nI ((g (r / 4) % 256 + 1) % 256)), upd wh y (-1), upd od y (en + 1), upd tg y (ta (r / 4)), upd tr y 0, upd so y (nI n), bk_mv bd (16 * y) w n, fr, en + 1), q, rh, rfl, ?_, ?_⟩
      · intro lf cd bg pb pn xp fh fl fa mk cb mi mb ml pa kb kl kc co px post p f hp28 kw' hp
        have wfX := bk_wf_congr (bk_hd ob (r / 4) a n r (g (r / 4))) (r / 4) (a + 5) (fun k => kb (p * 19 + 3 + k)) w n kw'
        have e3 : nI (p * 19) + 3 = nI (p * 19 + 3) := bn_add _ 3
        have fe : bk_fre il (-1) = il := if_pos rfl
        refine br_f (nI_ge (b := 16) hr (by omega)) (xk_canTake h rh hr ht6 (by omega) (fun _ => ?_) (fun c => absurd can c))
        refine br_f (by decide) ?_
        rw [e3]
        refine xk_g0_keptBytes (a := a) (G := g (r / 4)) (t := t) hr hn k4 k5 (by omega) sess.1 hG j3 k2 ht6 (Or.inl rfl) ?_
        rw [wfX, fe]
        exact nm_r (nI_1 r) hp
      · intro lf cd bg kc pb pn yp ki le go mk cb mb ml la ps pd pt kw kh kf kz ky wo be ma wr post f kw' hp
        have m := bk_mv_congr bd (16 * y) (fun k => wo (3 + k)) w n kw'
        refine br_f (nI_ge (b := 16) hr (by omega)) (yk_can h hr ht6 (by omega) (fun _ => ?_) (fun c => absurd can c))
        refine br_f (by decide) (yk_make hy hn hw hyl ?_)
        rw [m]
        refine yk_give (a := a) (G := g (r / 4)) (t := t) hr hn k4 k5 hy pk_us sess.2.1 k2 ht6 (-1) (Or.inl ⟨j3, rfl⟩) ?_
        rw [wfY]
        exact nm_r (nI_1 r) hp
    · have k6' : ∃ c', cr r = nI c' ∧ c' ≤ 5 ∧ (A (3 + r)).length < c' := by
        rcases k6 with z | z
        · rw [j3] at z; exact absurd z (nI_ne0 (by omega) (by omega))
        · exact z
      obtain ⟨c', c1, c2, c3⟩ := k6'
      have q := dk_giveS1 (a := a + 5 + n) (t := t) (y := y) (tr' := upd tr y 0) (so' := upd so y (nI n)) (bd' := bk_mv bd (16 * y) w n) h rh (by omega) ht ht6 hr k1 k2 j3 j4 m0 c1 c2 c3 (by omega) hy hw hY
      refine ⟨(bk_set A (3 + r) (A (3 + r) ++ [(-1, y, g (r / 4))]), bk_up g (r / 4), bk_wf (bk_hd ob (r / 4) a n r (g (r / 4))) (r / 4) (a + 5) w n, upd ol (r / 4) (nI (a + 5 + n)), upd gc t (gc t + 1), lc, upd lr t (nI r), upd gv (r / 4) (nI (g (r / 4) + 1)), th, upd hc r (nI ((A (3 + r)).length + 1)), upd hg (r * 5 + (A (3 + r)).length) (nI (g (r / 4))), upd hi (r * 5 + (A (3 + r)).length) (-1), ib, il, it, qi, qc, upd ta (r / 4) (nI ((g (r / 4) % 256 + 1) % 256)), upd wh y (nI (3 + r)), upd od y (en + 1), upd tg y (ta (r / 4)), upd tr y 0, upd so y (nI n), bk_mv bd (16 * y) w n, fr, en + 1), q.1, q.2, rfl, ?_, ?_⟩
      · intro lf cd bg pb pn xp fh fl fa mk cb mi mb ml pa kb kl kc co px post p f hp28 kw' hp
        have wfX := bk_wf_congr (bk_hd ob (r / 4) a n r (g (r / 4))) (r / 4) (a + 5) (fun k => kb (p * 19 + 3 + k)) w n kw'
        have e3 : nI (p * 19) + 3 = nI (p * 19 + 3) := bn_add _ 3
        refine br_f (nI_ge (b := 16) hr (by omega)) (xk_canTake h rh hr ht6 (by omega) (fun _ => ?_) (fun c => absurd can c))
        refine br_f (by decide) ?_
        rw [e3]
        refine xk_g1_keptBytes (a := a) (G := g (r / 4)) (t := t) (m := m) (c := (A (3 + r)).length) hr hn k4 k5 (by omega) sess.1 hG j3 j4 m0 k2 ht6 (rh r hr).1 (by omega) ?_
        rw [wfX]
        exact nm_r (nI_1 r) hp
      · intro lf cd bg kc pb pn yp ki le go mk cb mb ml la ps pd pt kw kh kf kz ky wo be ma wr post f kw' hp
        have mm := bk_mv_congr bd (16 * y) (fun k => wo (3 + k)) w n kw'
        refine br_f (nI_ge (b := 16) hr (by omega)) (yk_can h hr ht6 (by omega) (fun _ => ?_) (fun c => absurd can c))
        refine br_f (by decide) (yk_make hy hn hw hyl ?_)
        rw [mm]
        refine yk_give (a := a) (G := g (r / 4)) (t := t) hr hn k4 k5 hy pk_us sess.2.1 k2 ht6 (nI (3 + r)) (Or.inr ⟨by rw [j3]; exact nI_ne0 (by omega) (by omega), rfl⟩) ?_
        rw [wfY]
        exact nm_r (nI_1 r) hp
theorem lk_streamLoop {t n : Nat} (ht : 3 ≤ t) (ht6 : t < 6) (hn : n ≤ 16) (w : Nat → Int32) : ∀ (N : Nat) {B : Nat} {A : Nat → List bk_E} {g : Nat → Nat} {ob : Nat → Int32} {ol : Nat → Int32} {gc : Nat → Int32} {lc : Nat → Int32} {lr : Nat → Int32} {gv : Nat → Int32} {th : Nat → Int32} {hc : Nat → Int32} {hg : Nat → Int32} {hi : Nat → Int32} {ib : Nat → Int32} {il : Nat → Int32} {it : Nat → Int32} {qi : Nat → Int32} {qc : Nat → Int32} {ta : Nat → Int32} {wh : Nat → Int32} {od : Nat → Int32} {tg : Nat → Int32} {tr : Nat → Int32} {so : Nat → Int32} {bd : Nat → Int32} {fr : Int32} {en : Int32}, N ≤ 16 → bk_C B A g st ol th pl md cr lr gv ib il it qi qc ta wh od tg tr so bd fr en → bk_RH A hi hg hc → B + N ≤ 100000000 →
    ∃ d : bk_DT, bk_C (B + N) (zz_A d) (zz_g d) st (zz_ol d) (zz_th d) pl md cr (zz_lr d) (zz_gv d) (zz_ib d) (zz_il d) (zz_it d) (zz_qi d) (zz_qc d) (zz_ta d) (zz_wh d) (zz_od d) (zz_tg d) (zz_tr d) (zz_so d) (zz_bd d) (zz_fr d) (zz_en d) ∧ bk_RH (zz_A d) (zz_hi d) (zz_hg d) (zz_hc d) ∧ zz_th d = th ∧
      (∀ {lf cd bg pb pn xp fh fl fa mk cb mi mb ml pa kb kl kc co : Nat → Int32} {px : Int32} (post : SX → Prop) (p f : Nat), p < 28 → N < f → (∀ j, j < n → kb (p * 19 + 3 + j) = w j) → post (px, st, lf, cd, bg, zz_gv d, zz_ob d, zz_ol d, pb, pn, xp, fh, fl, fa, mk, cb, mi, mb, ml, pa, kb, kl, kc, zz_th d, pl, md, cr, zz_hc d, zz_hg d, zz_hi d, zz_ib d, zz_il d, zz_it d, zz_qi d, zz_qc d, zz_gc d, zz_lc d, zz_lr d, co) → wX_sendToStream_27 post (nI (p * 19)) (nI t) (nI n) f (nI (16 - N)) px st lf cd bg gv ob ol pb pn xp fh fl fa mk cb mi mb ml pa kb kl kc th pl md cr hc hg hi ib il it qi qc gc lc lr co) ∧
      (∀ {lf cd bg kc pb pn yp ki le go mk cb mb ml la ps pd pt kw kh kf kz ky wo be : Nat → Int32} {ma wr : Int32} (post : SY → Prop) (f : Nat), N < f → (∀ j, j < n → wo (3 + j) = w j) → post (zz_fr d, zz_en d, ma, wr, st, lf, cd, zz_ta d, bg, kc, zz_ob d, zz_ol d, pb, pn, yp, ki, le, go, mk, cb, mb, ml, la, ps, pd, pt, kw, kh, kf, kz, ky, zz_th d, pl, md, cr, zz_gc d, zz_lc d, zz_lr d, zz_wh d, zz_od d, zz_tg d, zz_tr d, zz_so d, zz_bd d, wo, be) → wY_send_66 post (nI t) (nI n) f (nI (16 - N)) fr en ma wr st lf cd ta bg kc ob ol pb pn yp ki le go mk cb mb ml la ps pd pt kw kh kf kz ky th pl md cr gc lc lr wh od tg tr so bd wo be) := by
  intro N
  induction N with
  | zero =>
    intro B A g ob ol gc lc lr gv th hc hg hi ib il it qi qc ta wh od tg tr so bd fr en _ h rh hB
    refine ⟨(A, g, ob, ol, gc, lc, lr, gv, th, hc, hg, hi, ib, il, it, qi, qc, ta, wh, od, tg, tr, so, bd, fr, en), h, rh, rfl, ?_, ?_⟩
    · intro lf cd bg pb pn xp fh fl fa mk cb mi mb ml pa kb kl kc co px post p f hp28 hf kw' hp
      obtain ⟨f, rfl⟩ : ∃ f', f = f' + 1 := ⟨f - 1, by omega⟩
      exact br_t (by decide) hp
    · intro lf cd bg kc pb pn yp ki le go mk cb mb ml la ps pd pt kw kh kf kz ky wo be ma wr post f hf kw' hp
      obtain ⟨f, rfl⟩ : ∃ f', f = f' + 1 := ⟨f - 1, by omega⟩
      exact br_t (by decide) hp
  | succ N ih =>
    intro B A g ob ol gc lc lr gv th hc hg hi ib il it qi qc ta wh od tg tr so bd fr en hN h rh hB
    obtain ⟨d1, h1, r1, t1, x1, y1⟩ := lk_ring1 (ob := ob) (gc := gc) (lc := lc) (r := 16 - (N + 1)) h rh (by omega) ht ht6 hn (by omega) w
    obtain ⟨d, h2, r2, t2, x2, y2⟩ := ih (ob := zz_ob d1) (gc := zz_gc d1) (lc := zz_lc d1) (by omega) h1 r1 (by omega)
    have e : 16 - (N + 1) + 1 = 16 - N := by omega
    refine ⟨d, by rw [Nat.add_assoc, Nat.add_comm 1 N] at h2; exact h2, r2, t2.trans t1, ?_, ?_⟩
    · intro lf cd bg pb pn xp fh fl fa mk cb mi mb ml pa kb kl kc co px post p f hp28 hf kw' hp
      obtain ⟨f, rfl⟩ : ∃ f', f = f' + 1 := ⟨f - 1, by omega⟩
      refine x1 post p f hp28 kw' ?_
      rw [e]
      exact x2 post p f hp28 (by omega) kw' hp
    · intro lf cd bg kc pb pn yp ki le go mk cb mb ml la ps pd pt kw kh kf kz ky wo be ma wr post f hf kw' hp
      obtain ⟨f, rfl⟩ : ∃ f', f = f' + 1 := ⟨f - 1, by omega⟩
      refine y1 post f kw' ?_
      rw [e]
      exact y2 post f (by omega) kw' hp
/-- what a command 3, 4 or 5 does -/
theorem lk_do {B : Nat} {A : Nat → List bk_E} {g : Nat → Nat} {ob : Nat → Int32} {ol : Nat → Int32} {gc : Nat → Int32} {lc : Nat → Int32} {lr : Nat → Int32} {gv : Nat → Int32} {th : Nat → Int32} {hc : Nat → Int32} {hg : Nat → Int32} {hi : Nat → Int32} {ib : Nat → Int32} {il : Nat → Int32} {it : Nat → Int32} {qi : Nat → Int32} {qc : Nat → Int32} {ta : Nat → Int32} {wh : Nat → Int32} {od : Nat → Int32} {tg : Nat → Int32} {tr : Nat → Int32} {so : Nat → Int32} {bd : Nat → Int32} {fr : Int32} {en : Int32} (h : bk_C B A g st ol th pl md cr lr gv ib il it qi qc ta wh od tg tr so bd fr en) (rh : bk_RH A hi hg hc) (hB : B + 16 ≤ 100000000) {s w a n : Nat} (hs : s < 4) (hw : (w = 3 ∧ a < 6 ∧ 1 ≤ n ∧ n ≤ 16) ∨ ((w = 4 ∨ w = 5) ∧ a < 256 ∧ n = 0)) (bo : Nat → Int32) :
    ∃ d : bk_DT, bk_C (B + 16) (zz_A d) (zz_g d) st (zz_ol d) (zz_th d) pl md cr (zz_lr d) (zz_gv d) (zz_ib d) (zz_il d) (zz_it d) (zz_qi d) (zz_qc d) (zz_ta d) (zz_wh d) (zz_od d) (zz_tg d) (zz_tr d) (zz_so d) (zz_bd d) (zz_fr d) (zz_en d) ∧ bk_RH (zz_A d) (zz_hi d) (zz_hg d) (zz_hc d) ∧ zz_th d = th ∧
      (∀ {lf cd bg pb pn xp fh fl fa mk cb mi mb ml pa kb kl kc co : Nat → Int32} {px : Int32} (post : SX → Prop) (f i : Nat) (x c : Int32), i < 7 → kb ((s * 7 + i) * 19) = nI w → kb ((s * 7 + i) * 19 + 1) = nI a → kb ((s * 7 + i) * 19 + 2) = x → kl (s * 7 + i) = nI (n + 3) → (∀ j, j < n → kb ((s * 7 + i) * 19 + 3 + j) = bo j) → ¬ c ≤ nI i →
        wX_doKept_10 post (nI s) x c f (nI (i + 1)) px st lf cd bg (zz_gv d) (zz_ob d) (zz_ol d) pb pn xp fh fl fa mk cb mi mb ml pa kb kl kc (zz_th d) pl md cr (zz_hc d) (zz_hg d) (zz_hi d) (zz_ib d) (zz_il d) (zz_it d) (zz_qi d) (zz_qc d) (zz_gc d) (zz_lc d) (zz_lr d) co → wX_doKept_10 post (nI s) x c (f + 1) (nI i) px st lf cd bg gv ob ol pb pn xp fh fl fa mk cb mi mb ml pa kb kl kc th pl md cr hc hg hi ib il it qi qc gc lc lr co) ∧
      (∀ {lf cd bg kc pb pn yp ki le go mk cb mb ml la ps pd pt kw kh kf kz ky wo be : Nat → Int32} {ma wr : Int32} (post : Int32 → SY → Prop), (∀ j, j < n → wo (3 + j) = bo j) → post 1 (zz_fr d, zz_en d, ma, wr, st, lf, cd, zz_ta d, bg, kc, zz_ob d, zz_ol d, pb, pn, yp, ki, le, go, mk, cb, mb, ml, la, ps, pd, pt, kw, kh, kf, kz, ky, zz_th d, pl, md, cr, zz_gc d, zz_lc d, zz_lr d, zz_wh d, zz_od d, zz_tg d, zz_tr d, zz_so d, zz_bd d, wo, be) → wpY_does post (fr, en, ma, wr, st, lf, cd, ta, bg, kc, ob, ol, pb, pn, yp, ki, le, go, mk, cb, mb, ml, la, ps, pd, pt, kw, kh, kf, kz, ky, th, pl, md, cr, gc, lc, lr, wh, od, tg, tr, so, bd, wo, be) (nI s) (nI w) (nI a) 0 (nI n)) := by
  -- X's road to what is done
  have road : ∀ {lf cd bg pb pn xp fh fl fa mk cb mi mb ml pa kb kl kc co : Nat → Int32} {px : Int32} (post : SX → Prop) (f i : Nat) (x c : Int32), i < 7 → kb ((s * 7 + i) * 19) = nI w → kb ((s * 7 + i) * 19 + 1) = nI a → kb ((s * 7 + i) * 19 + 2) = x → ¬ c ≤ nI i →
      (w = 3 → 3 ≤ a → wpX_sendToStream (fun u => match u with | (px, st, lf, cd, bg, gv, ob, ol, pb, pn, xp, fh, fl, fa, mk, cb, mi, mb, ml, pa, kb, kl, kc, th, pl, md, cr, hc, hg, hi, ib, il, it, qi, qc, gc, lc, lr, co) => ∀ y, y = nI i + 1 → wX_doKept_10 post (nI s) x c f y px st lf cd bg gv ob ol pb pn xp fh fl fa mk cb mi mb ml pa kb kl kc th pl md cr hc hg hi ib il it qi qc gc lc lr co) (px, st, lf, cd, bg, gv, ob, ol, pb, pn, xp, fh, fl, fa, mk, cb, mi, mb, ml, pa, kb, kl, kc, th, pl, md, cr, hc, hg, hi, ib, il, it, qi, qc, gc, lc, lr, co) (nI (s * 7 + i))) →
      (w = 3 → a < 3 → wpX_sendToQueue (fun u => match u with | (px, st, lf, cd, bg, gv, ob, ol, pb, pn, xp, fh, fl, fa, mk, cb, mi, mb, ml, pa, kb, kl, kc, th, pl, md, cr, hc, hg, hi, ib, il, it, qi, qc, gc, lc, lr, co) => ∀ y, y = nI i + 1 → wX_doKept_10 post (nI s) x c f y px st lf cd bg gv ob ol pb pn xp fh fl fa mk cb mi mb ml pa kb kl kc th pl md cr hc hg hi ib il it qi qc gc lc lr co) (px, st, lf, cd, bg, gv, ob, ol, pb, pn, xp, fh, fl, fa, mk, cb, mi, mb, ml, pa, kb, kl, kc, th, pl, md, cr, hc, hg, hi, ib, il, it, qi, qc, gc, lc, lr, co) (nI (s * 7 + i))) →
      (w = 5 → wpX_settle (fun u => match u with | (px, st, lf, cd, bg, gv, ob, ol, pb, pn, xp, fh, fl, fa, mk, cb, mi, mb, ml, pa, kb, kl, kc, th, pl, md, cr, hc, hg, hi, ib, il, it, qi, qc, gc, lc, lr, co) => ∀ y, y = nI i + 1 → wX_doKept_10 post (nI s) x c f y px st lf cd bg gv ob ol pb pn xp fh fl fa mk cb mi mb ml pa kb kl kc th pl md cr hc hg hi ib il it qi qc gc lc lr co) (px, st, lf, cd, bg, gv, ob, ol, pb, pn, xp, fh, fl, fa, mk, cb, mi, mb, ml, pa, kb, kl, kc, th, pl, md, cr, hc, hg, hi, ib, il, it, qi, qc, gc, lc, lr, co) (nI s) (nI a) 1) →
      (w = 4 → wpX_settle (fun u => match u with | (px, st, lf, cd, bg, gv, ob, ol, pb, pn, xp, fh, fl, fa, mk, cb, mi, mb, ml, pa, kb, kl, kc, th, pl, md, cr, hc, hg, hi, ib, il, it, qi, qc, gc, lc, lr, co) => ∀ y, y = nI i + 1 → wX_doKept_10 post (nI s) x c f y px st lf cd bg gv ob ol pb pn xp fh fl fa mk cb mi mb ml pa kb kl kc th pl md cr hc hg hi ib il it qi qc gc lc lr co) (px, st, lf, cd, bg, gv, ob, ol, pb, pn, xp, fh, fl, fa, mk, cb, mi, mb, ml, pa, kb, kl, kc, th, pl, md, cr, hc, hg, hi, ib, il, it, qi, qc, gc, lc, lr, co) (nI s) (nI a) 0) →
      wX_doKept_10 post (nI s) x c (f + 1) (nI i) px st lf cd bg gv ob ol pb pn xp fh fl fa mk cb mi mb ml pa kb kl kc th pl md cr hc hg hi ib il it qi qc gc lc lr co := by
    intro lf cd bg pb pn xp fh fl fa mk cb mi mb ml pa kb kl kc co px post f i x c hi7 k0 k1 k2 hc' g1 g2 g3 g4
    have e1 : nI s * 7 + nI i = nI (s * 7 + i) := by rw [bn_mul, nI_add]
    have e2 : nI (s * 7 + i) * 19 = nI ((s * 7 + i) * 19) := bn_mul _ 19
    have e3 : nI ((s * 7 + i) * 19) + 2 = nI ((s * 7 + i) * 19 + 2) := bn_add _ 2
    have c0 : (nI ((s * 7 + i) * 19)).toNatClampNeg = (s * 7 + i) * 19 := nI_clamp (by omega)
    have c1 : (nI ((s * 7 + i) * 19 + 1)).toNatClampNeg = (s * 7 + i) * 19 + 1 := nI_clamp (by omega)
    have c2 : (nI ((s * 7 + i) * 19 + 2)).toNatClampNeg = (s * 7 + i) * 19 + 2 := nI_clamp (by omega)
    have i0 : vp_in (nI ((s * 7 + i) * 19)) 532 := vp_in_nI (by omega) (by omega)
    have i1 : vp_in (nI ((s * 7 + i) * 19 + 1)) 532 := vp_in_nI (by omega) (by omega)
    refine br_f hc' (nm_r e1 (nm_r e2 ?_))
    rw [e3, c2, k2, c0, k0, nI_1 ((s * 7 + i) * 19), c1, k1]
    refine ⟨vp_in_nI (by omega) (by omega), br_t rfl ⟨i0, ?_⟩⟩
    rcases hw with ⟨rfl, ha, _⟩ | ⟨rfl | rfl, ha, _⟩
    · refine br_t rfl ⟨i1, br_f (nI_pos (by omega)) ?_⟩
      exact pk_le 3 a (fun z => br_t rfl (g1 rfl z)) (fun z => br_f (by decide) (g2 rfl z))
    · exact br_f (by decide) ⟨i1, i0, br_f (by decide) (g4 rfl)⟩
    · exact br_f (by decide) ⟨i1, i0, br_t rfl (g3 rfl)⟩
  rcases hw with ⟨rfl, ha, hn1, hn⟩ | ⟨hw, ha, rfl⟩
  · by_cases a3 : a < 3
    · obtain ⟨d, h1, r1, t1, x1, y1⟩ := lk_sendQ (ob := ob) (gc := gc) (lc := lc) h rh (by omega) a3 hn1 hn bo
      refine ⟨d, dk_mono h1 (by omega), r1, t1, ?_, ?_⟩
      · intro lf cd bg pb pn xp fh fl fa mk cb mi mb ml pa kb kl kc co px post f i x c hi7 k0 k1 k2 k3 k4 hc' hp
        refine road post f i x c hi7 k0 k1 k2 hc' (fun _ z => by omega) (fun _ _ => ?_) (fun z => by omega) (fun z => by omega)
        exact x1 _ (s * 7 + i) (by omega) k1 k3 k4 (nm_r (nI_1 i) hp)
      · intro lf cd bg kc pb pn yp ki le go mk cb mb ml la ps pd pt kw kh kf kz ky wo be ma wr post kw' hp
        exact br_t rfl (br_t rfl (y1 _ kw' hp))
    · obtain ⟨d, h1, r1, t1, x1, y1⟩ := lk_streamLoop (ob := ob) (gc := gc) (lc := lc) (t := a) (n := n) (by omega) ha hn bo 16 (by omega) h rh (by omega)
      refine ⟨d, h1, r1, t1, ?_, ?_⟩
      · intro lf cd bg pb pn xp fh fl fa mk cb mi mb ml pa kb kl kc co px post f i x c hi7 k0 k1 k2 k3 k4 hc' hp
        refine road post f i x c hi7 k0 k1 k2 hc' (fun _ _ => ?_) (fun _ z => by omega) (fun z => by omega) (fun z => by omega)
        have e2 : nI (s * 7 + i) * 19 = nI ((s * 7 + i) * 19) := bn_mul _ 19
        have c1 : (nI ((s * 7 + i) * 19 + 1)).toNatClampNeg = (s * 7 + i) * 19 + 1 := nI_clamp (by omega)
        have cp : (nI (s * 7 + i)).toNatClampNeg = s * 7 + i := nI_clamp (by omega)
        have e3 : nI (n + 3) - 3 = nI n := (pk_sub (a := n + 3) (b := 3) (by omega)).trans (congrArg nI (by omega))
        refine nm_r e2 ?_
        rw [nI_1, c1, k1, cp, k3, e3]
        refine ⟨vp_in_nI (by omega) (by omega), nm_e ⟨vp_in_nI (by omega) (by omega), nm_e ⟨17, ?_⟩⟩⟩
        exact x1 _ (s * 7 + i) 17 (by omega) (by omega) k4 (nm_r (nI_1 i) hp)
      · intro lf cd bg kc pb pn yp ki le go mk cb mb ml la ps pd pt kw kh kf kz ky wo be ma wr post kw' hp
        refine br_t rfl (br_t rfl (br_t (nI_le (a := 3) (by omega) (by omega)) ⟨17, ?_⟩))
        exact y1 _ 17 (by omega) kw' hp
  · obtain ⟨d, h1, r1, t1, x1, y1⟩ := lk_settle (ob := ob) (gc := gc) (lc := lc) (s := s) (n := a) (x3 := if w = 5 then 1 else 0) h rh (by omega) hs ha (by
      by_cases e : w = 5
      · right; rw [if_pos e]
      · left; rw [if_neg e])
    refine ⟨d, dk_mono h1 (by omega), r1, t1, ?_, ?_⟩
    · intro lf cd bg pb pn xp fh fl fa mk cb mi mb ml pa kb kl kc co px post f i x c hi7 k0 k1 k2 k3 k4 hc' hp
      refine road post f i x c hi7 k0 k1 k2 hc' (fun z => by omega) (fun z => by omega) (fun z => ?_) (fun z => ?_)
      · rw [if_pos z] at x1
        exact x1 _ (nm_r (nI_1 i) hp)
      · rw [if_neg (by omega)] at x1
        exact x1 _ (nm_r (nI_1 i) hp)
    · intro lf cd bg kc pb pn yp ki le go mk cb mb ml la ps pd pt kw kh kf kz ky wo be ma wr post kw' hp
      rcases hw with rfl | rfl
      · rw [if_neg (by omega)] at y1
        exact br_t rfl (br_f (by decide) (br_f (by decide) (y1 _ hp)))
      · rw [if_pos rfl] at y1
        exact br_t rfl (br_f (by decide) (br_t rfl (y1 _ hp)))
end STREAM
end
section
/-! what is kept: rows closed up -/
def bk_nr (F : Nat → Int32) (x : Int32) : Nat → Nat
  | 0 => 0
  | n + 1 => bk_nr F x n + (if F n = x then 0 else 1)
theorem bk_nr_le (F : Nat → Int32) (x : Int32) : ∀ n, bk_nr F x n ≤ n
  | 0 => Nat.le_refl 0
  | n + 1 => by have := bk_nr_le F x n; unfold bk_nr; split <;> omega
theorem bk_nr_up (F : Nat → Int32) (x : Int32) {n : Nat} (h : F n ≠ x) : bk_nr F x (n + 1) = bk_nr F x n + 1 := by
  rw [bk_nr, if_neg h]
theorem bk_nr_eq (F : Nat → Int32) (x : Int32) {n : Nat} (h : F n = x) : bk_nr F x (n + 1) = bk_nr F x n := by
  rw [bk_nr, if_pos h]; rfl
theorem bk_nr_mono (F : Nat → Int32) (x : Int32) {m : Nat} : ∀ n, m ≤ n → bk_nr F x m ≤ bk_nr F x n
  | 0, h => by have : m = 0 := by omega
               rw [this]; exact Nat.le_refl _
  | n + 1, h => by
    by_cases e : m = n + 1
    · rw [e]; exact Nat.le_refl _
    · have := bk_nr_mono F x (m := m) n (by omega)
      have : bk_nr F x n ≤ bk_nr F x (n + 1) := by
        by_cases z : F n = x
        · rw [bk_nr_eq F x z]; exact Nat.le_refl _
        · rw [bk_nr_up F x z]; omega
      omega
theorem bk_nr_lt (F : Nat → Int32) (x : Int32) {j n : Nat} (h : j < n) (hx : F j ≠ x) : bk_nr F x j < bk_nr F x n := by
  have := bk_nr_mono F x (m := j + 1) n h
  rw [bk_nr_up F x hx] at this
  omega
theorem bk_nr_ex (F : Nat → Int32) (x : Int32) : ∀ n m, m < bk_nr F x n → ∃ j, j < n ∧ F j ≠ x ∧ bk_nr F x j = m
  | 0, m, h => absurd h (Nat.not_lt_zero m)
  | n + 1, m, h => by
    by_cases z : F n = x
    · rw [bk_nr_eq F x z] at h
      obtain ⟨j, h1, h2⟩ := bk_nr_ex F x n m h
      exact ⟨j, by omega, h2⟩
    · rw [bk_nr_up F x z] at h
      by_cases e : m = bk_nr F x n
      · exact ⟨n, by omega, z, e.symm⟩
      · obtain ⟨j, h1, h2⟩ := bk_nr_ex F x n m (by omega)
        exact ⟨j, by omega, h2⟩
theorem bk_nr_congr (F G : Nat → Int32) (x : Int32) : ∀ n, (∀ j, j < n → F j = G j) → bk_nr F x n = bk_nr G x n
  | 0, _ => rfl
  | n + 1, h => by
    unfold bk_nr
    rw [bk_nr_congr F G x n (fun j hj => h j (by omega)), h n (by omega)]
/-- nothing of x: all stay where they are -/
theorem bk_nr_all (F : Nat → Int32) (x : Int32) : ∀ n, (∀ j, j < n → F j ≠ x) → bk_nr F x n = n
  | 0, _ => rfl
  | n + 1, h => by rw [bk_nr_up F x (h n (by omega)), bk_nr_all F x n (fun j hj => h j (by omega))]
def bk_c1 (f : Nat → Int32) (b : Nat) (F : Nat → Int32) (x : Int32) : Nat → Nat → Int32
  | 0 => f
  | i + 1 => if F i = x then bk_c1 f b F x i else upd (bk_c1 f b F x i) (b + bk_nr F x i) (bk_c1 f b F x i (b + i))
def bk_cw (w : Nat) (f : Nat → Int32) (b : Nat) (F : Nat → Int32) (x : Int32) : Nat → Nat → Int32
  | 0 => f
  | i + 1 => if F i = x then bk_cw w f b F x i else bk_mv (bk_cw w f b F x i) ((b + bk_nr F x i) * w) (fun k => bk_cw w f b F x i ((b + i) * w + k)) w
theorem bk_c1_t (f : Nat → Int32) (b : Nat) (F : Nat → Int32) (x : Int32) (i : Nat) (h : F i = x) : bk_c1 f b F x (i + 1) = bk_c1 f b F x i := by rw [bk_c1, if_pos h]
theorem bk_c1_f (f : Nat → Int32) (b : Nat) (F : Nat → Int32) (x : Int32) (i : Nat) (h : F i ≠ x) : bk_c1 f b F x (i + 1) = upd (bk_c1 f b F x i) (b + bk_nr F x i) (bk_c1 f b F x i (b + i)) := by rw [bk_c1, if_neg h]
theorem bk_cw_t (w : Nat) (f : Nat → Int32) (b : Nat) (F : Nat → Int32) (x : Int32) (i : Nat) (h : F i = x) : bk_cw w f b F x (i + 1) = bk_cw w f b F x i := by rw [bk_cw, if_pos h]
theorem bk_cw_f (w : Nat) (f : Nat → Int32) (b : Nat) (F : Nat → Int32) (x : Int32) (i : Nat) (h : F i ≠ x) : bk_cw w f b F x (i + 1) = bk_mv (bk_cw w f b F x i) ((b + bk_nr F x i) * w) (fun k => bk_cw w f b F x i ((b + i) * w + k)) w := by rw [bk_cw, if_neg h]
theorem bk_c1_o (f : Nat → Int32) (b : Nat) (F : Nat → Int32) (x : Int32) : ∀ i m, (m < b ∨ b + bk_nr F x i ≤ m) → bk_c1 f b F x i m = f m
  | 0, _, _ => rfl
  | i + 1, m, h => by
    unfold bk_c1
    by_cases z : F i = x
    · rw [if_pos z]
      rw [bk_nr_eq F x z] at h
      exact bk_c1_o f b F x i m h
    · rw [if_neg z]
      rw [bk_nr_up F x z] at h
      rw [pk_un (by omega)]
      exact bk_c1_o f b F x i m (by omega)
theorem bk_c1_i (f : Nat → Int32) (b : Nat) (F : Nat → Int32) (x : Int32) : ∀ i j, j < i → F j ≠ x → bk_c1 f b F x i (b + bk_nr F x j) = f (b + j)
  | 0, j, h, _ => absurd h (Nat.not_lt_zero j)
  | i + 1, j, h, hx => by
    unfold bk_c1
    have le := bk_nr_le F x i
    by_cases e : j = i
    · subst e
      rw [if_neg hx, pk_us]
      exact bk_c1_o f b F x j (b + j) (by omega)
    · have ih := bk_c1_i f b F x i j (by omega) hx
      by_cases z : F i = x
      · rw [if_pos z]; exact ih
      · have lt := bk_nr_lt F x (show j < i by omega) hx
        rw [if_neg z, pk_un (by omega)]; exact ih
theorem bk_cw_o (w : Nat) (f : Nat → Int32) (b : Nat) (F : Nat → Int32) (x : Int32) : ∀ i m k, k < w → (m < b ∨ b + bk_nr F x i ≤ m) → bk_cw w f b F x i (m * w + k) = f (m * w + k)
  | 0, _, _, _, _ => rfl
  | i + 1, m, k, hk, h => by
    unfold bk_cw
    by_cases z : F i = x
    · rw [if_pos z]
      rw [bk_nr_eq F x z] at h
      exact bk_cw_o w f b F x i m k hk h
    · rw [if_neg z]
      rw [bk_nr_up F x z] at h
      rw [bk_mv_o _ _ _ _ _ ?_]
      · exact bk_cw_o w f b F x i m k hk (by omega)
      · rcases h with h | h
        · left
          have : (m + 1) * w ≤ (b + bk_nr F x i) * w := Nat.mul_le_mul_right w (by omega)
          rw [Nat.add_mul, Nat.one_mul] at this
          omega
        · right
          have : (b + bk_nr F x i + 1) * w ≤ m * w := Nat.mul_le_mul_right w (by omega)
          rw [Nat.add_mul, Nat.one_mul] at this
          omega
theorem bk_cw_i (w : Nat) (f : Nat → Int32) (b : Nat) (F : Nat → Int32) (x : Int32) : ∀ i j k, k < w → j < i → F j ≠ x → bk_cw w f b F x i ((b + bk_nr F x j) * w + k) = f ((b + j) * w + k)
  | 0, j, _, _, h, _ => absurd h (Nat.not_lt_zero j)
  | i + 1, j, k, hk, h, hx => by
    unfold bk_cw
    have le := bk_nr_le F x i
    by_cases e : j = i
    · subst e
      rw [if_neg hx, bk_mv_i _ _ _ _ k hk]
      exact bk_cw_o w f b F x j (b + j) k hk (by omega)
    · have ih := bk_cw_i w f b F x i j k hk (by omega) hx
      by_cases z : F i = x
      · rw [if_pos z]; exact ih
      · have lt := bk_nr_lt F x (show j < i by omega) hx
        rw [if_neg z, bk_mv_o _ _ _ _ _ ?_]
        · exact ih
        · left
          have : (b + bk_nr F x j + 1) * w ≤ (b + bk_nr F x i) * w := Nat.mul_le_mul_right w (by omega)
          rw [Nat.add_mul (b + bk_nr F x j), Nat.one_mul] at this
          omega
end
section
/-! a transaction's end -/
section MOVE
variable {B : Nat} {A : Nat → List bk_E} {g : Nat → Nat} {st lf cd bg gv ob ol pb pn xp fh fl fa mk cb mi mb ml pa kb kl kc th pl md cr hc hg hi ib il it qi qc gc lc lr co ta yp ki le go la ps pd pt kw kh kf kz ky wh od tg tr so bd wo be : Nat → Int32} {px fr en ma wr : Int32}
theorem xk_move2 {post : SX → Prop} {f t : Nat} (hf : f < 28) (ht : t < 28) (hp : post (px, st, lf, cd, bg, gv, ob, ol, pb, pn, xp, fh, fl, fa, mk, cb, mi, mb, ml, pa, bk_mv kb (t * 19) (fun k => kb (f * 19 + k)) 19, upd kl t (kl f), kc, th, pl, md, cr, hc, hg, hi, ib, il, it, qi, qc, gc, lc, lr, co)) :
    ∀ n k, k ≤ 19 → 19 - k < n → wX_moveKept_2 post (nI f) (nI t) px n (nI k) st lf cd bg gv ob ol pb pn xp fh fl fa mk cb mi mb ml pa (bk_mv kb (t * 19) (fun k => kb (f * 19 + k)) k) kl kc th pl md cr hc hg hi ib il it qi qc gc lc lr co
  | 0, k, _, h => by omega
  | n + 1, k, h1, h2 => by
    have cf : (nI f).toNatClampNeg = f := nI_clamp (by omega)
    have ct : (nI t).toNatClampNeg = t := nI_clamp (by omega)
    have e1 : nI f * 19 + nI k = nI (f * 19 + k) := by rw [bn_mul, nI_add]
    have e2 : nI t * 19 + nI k = nI (t * 19 + k) := by rw [bn_mul, nI_add]
    have c1 : (nI (f * 19 + k)).toNatClampNeg = f * 19 + k := nI_clamp (by omega)
    have c2 : (nI (t * 19 + k)).toNatClampNeg = t * 19 + k := nI_clamp (by omega)
    refine pk_le 19 k (fun g => ⟨pk_in f 28 hf, pk_in t 28 ht, ?_⟩) (fun g => ?_)
    · have : k = 19 := by omega
      subst this
      rw [cf, ct]
      exact nm_e hp
    · rw [e1, e2, c1, c2, bk_mv_o kb (t * 19) _ k (f * 19 + k) (by omega)]
      exact ⟨vp_in_nI (by omega) (by omega), vp_in_nI (by omega) (by omega), nm_e (nm_r (nI_1 k) (xk_move2 hf ht hp n (k + 1) (by omega) (by omega)))⟩
theorem xk_move {post : SX → Prop} {f t : Nat} (hf : f < 28) (ht : t < 28) (hp : post (px, st, lf, cd, bg, gv, ob, ol, pb, pn, xp, fh, fl, fa, mk, cb, mi, mb, ml, pa, bk_mv kb (t * 19) (fun k => kb (f * 19 + k)) 19, upd kl t (kl f), kc, th, pl, md, cr, hc, hg, hi, ib, il, it, qi, qc, gc, lc, lr, co)) : wpX_moveKept post (px, st, lf, cd, bg, gv, ob, ol, pb, pn, xp, fh, fl, fa, mk, cb, mi, mb, ml, pa, kb, kl, kc, th, pl, md, cr, hc, hg, hi, ib, il, it, qi, qc, gc, lc, lr, co) (nI f) (nI t) :=
  ⟨20, xk_move2 hf ht hp 20 0 (by omega) (by omega)⟩
theorem xk_drop13 {post : SX → Prop} {s c : Nat} {x : Int32} (hs : s < 4) (hc7 : c ≤ 7)
    (hp : post (px, st, lf, cd, bg, gv, ob, ol, pb, pn, xp, fh, fl, fa, mk, cb, mi, mb, ml, pa, bk_cw 19 kb (s * 7) (fun j => kb ((s * 7 + j) * 19 + 2)) x c, bk_c1 kl (s * 7) (fun j => kb ((s * 7 + j) * 19 + 2)) x c, upd kc s (nI (bk_nr (fun j => kb ((s * 7 + j) * 19 + 2)) x c)), th, pl, md, cr, hc, hg, hi, ib, il, it, qi, qc, gc, lc, lr, co)) :
    ∀ f i, i ≤ c → c - i < f → wX_dropKept_13 post (nI s) x (nI c) f (nI (bk_nr (fun j => kb ((s * 7 + j) * 19 + 2)) x i)) (nI i) px st lf cd bg gv ob ol pb pn xp fh fl fa mk cb mi mb ml pa (bk_cw 19 kb (s * 7) (fun j => kb ((s * 7 + j) * 19 + 2)) x i) (bk_c1 kl (s * 7) (fun j => kb ((s * 7 + j) * 19 + 2)) x i) kc th pl md cr hc hg hi ib il it qi qc gc lc lr co
  | 0, i, _, h => by omega
  | f + 1, i, h1, h2 => by
    have cs : (nI s).toNatClampNeg = s := nI_clamp (by omega)
    have le := bk_nr_le (fun j => kb ((s * 7 + j) * 19 + 2)) x i
    have e1 : nI s * 7 + nI i = nI (s * 7 + i) := by rw [bn_mul, nI_add]
    have e2 : nI (s * 7 + i) * 19 + 2 = nI ((s * 7 + i) * 19 + 2) := by rw [bn_mul, bn_add]
    have c2 : (nI ((s * 7 + i) * 19 + 2)).toNatClampNeg = (s * 7 + i) * 19 + 2 := nI_clamp (by omega)
    refine pk_le c i (fun g => ⟨pk_in s 4 hs, ?_⟩) (fun g => nm_r e1 ?_)
    · have : i = c := by omega
      subst this
      rw [cs]
      exact nm_e hp
    · rw [e2, c2, bk_cw_o 19 kb (s * 7) _ x i (s * 7 + i) 2 (by omega) (by omega)]
      refine ⟨vp_in_nI (by omega) (by omega), ?_⟩
      have ih := xk_drop13 hs hc7 hp f (i + 1) (by omega) (by omega)
      by_cases z : kb ((s * 7 + i) * 19 + 2) = x
      · refine br_t z (nm_r (nI_1 i) ?_)
        rw [bk_nr_eq (fun j => kb ((s * 7 + j) * 19 + 2)) x (n := i) z, bk_cw_t 19 kb (s * 7) (fun j => kb ((s * 7 + j) * 19 + 2)) x i z, bk_c1_t kl (s * 7) (fun j => kb ((s * 7 + j) * 19 + 2)) x i z] at ih
        exact ih
      · have e3 : nI s * 7 + nI (bk_nr (fun j => kb ((s * 7 + j) * 19 + 2)) x i) = nI (s * 7 + bk_nr (fun j => kb ((s * 7 + j) * 19 + 2)) x i) := by rw [bn_mul, nI_add]
        refine br_f z ?_
        rw [e3]
        refine xk_move (by omega) (by omega) (nm_r (nI_1 _) (nm_r (nI_1 i) ?_))
        rw [bk_nr_up (fun j => kb ((s * 7 + j) * 19 + 2)) x (n := i) z, bk_cw_f 19 kb (s * 7) (fun j => kb ((s * 7 + j) * 19 + 2)) x i z, bk_c1_f kl (s * 7) (fun j => kb ((s * 7 + j) * 19 + 2)) x i z] at ih
        exact ih
theorem xk_dropKept {post : SX → Prop} {s c : Nat} {x : Int32} (hs : s < 4) (hc7 : c ≤ 7) (hk : kc s = nI c)
    (hp : post (px, st, lf, cd, bg, gv, ob, ol, pb, pn, xp, fh, fl, fa, mk, cb, mi, mb, ml, pa, bk_cw 19 kb (s * 7) (fun j => kb ((s * 7 + j) * 19 + 2)) x c, bk_c1 kl (s * 7) (fun j => kb ((s * 7 + j) * 19 + 2)) x c, upd kc s (nI (bk_nr (fun j => kb ((s * 7 + j) * 19 + 2)) x c)), th, pl, md, cr, hc, hg, hi, ib, il, it, qi, qc, gc, lc, lr, co)) : wpX_dropKept post (px, st, lf, cd, bg, gv, ob, ol, pb, pn, xp, fh, fl, fa, mk, cb, mi, mb, ml, pa, kb, kl, kc, th, pl, md, cr, hc, hg, hi, ib, il, it, qi, qc, gc, lc, lr, co) (nI s) x := by
  have cs : (nI s).toNatClampNeg = s := nI_clamp (by omega)
  refine ⟨pk_in s 4 hs, ?_⟩
  rw [cs, hk]
  exact nm_e ⟨c + 1, xk_drop13 hs hc7 hp (c + 1) 0 (by omega) (by omega)⟩
/-! Y -/
theorem yk_move50 {post : SY → Prop} {f t : Nat} (hf : f < 24) (ht : t < 24) (hp : post (fr, en, ma, wr, st, lf, cd, ta, bg, kc, ob, ol, pb, pn, yp, ki, le, go, mk, cb, mb, ml, la, ps, pd, pt, kw, kh, kf, kz, bk_mv ky (t * 16) (fun k => ky (f * 16 + k)) 16, th, pl, md, cr, gc, lc, lr, wh, od, tg, tr, so, bd, wo, be)) :
    ∀ n k, k ≤ 16 → 16 - k < n → wY_move_50 post (nI f) (nI t) fr en ma wr n (nI k) st lf cd ta bg kc ob ol pb pn yp ki le go mk cb mb ml la ps pd pt kw kh kf kz (bk_mv ky (t * 16) (fun k => ky (f * 16 + k)) k) th pl md cr gc lc lr wh od tg tr so bd wo be
  | 0, k, _, h => by omega
  | n + 1, k, h1, h2 => by
    have e1 : 16 * nI f + nI k = nI (f * 16 + k) := by rw [bn_mul2, nI_add, Nat.mul_comm]
    have e2 : 16 * nI t + nI k = nI (t * 16 + k) := by rw [bn_mul2, nI_add, Nat.mul_comm]
    have c1 : (nI (f * 16 + k)).toNatClampNeg = f * 16 + k := nI_clamp (by omega)
    have c2 : (nI (t * 16 + k)).toNatClampNeg = t * 16 + k := nI_clamp (by omega)
    refine pk_le 16 k (fun g => ?_) (fun g => ?_)
    · have : k = 16 := by omega
      subst this
      exact hp
    · rw [e1, e2, c1, c2, bk_mv_o ky (t * 16) _ k (f * 16 + k) (by omega)]
      exact ⟨vp_in_nI (by omega) (by omega), vp_in_nI (by omega) (by omega), nm_e (nm_r (nI_1 k) (yk_move50 hf ht hp n (k + 1) (by omega) (by omega)))⟩
theorem yk_move {post : SY → Prop} {f t : Nat} (hf : f < 24) (ht : t < 24) (hp : post (fr, en, ma, wr, st, lf, cd, ta, bg, kc, ob, ol, pb, pn, yp, ki, le, go, mk, cb, mb, ml, la, ps, pd, pt, upd kw t (kw f), upd kh t (kh f), upd kf t (kf f), upd kz t (kz f), bk_mv ky (t * 16) (fun k => ky (f * 16 + k)) 16, th, pl, md, cr, gc, lc, lr, wh, od, tg, tr, so, bd, wo, be)) : wpY_move post (fr, en, ma, wr, st, lf, cd, ta, bg, kc, ob, ol, pb, pn, yp, ki, le, go, mk, cb, mb, ml, la, ps, pd, pt, kw, kh, kf, kz, ky, th, pl, md, cr, gc, lc, lr, wh, od, tg, tr, so, bd, wo, be) (nI f) (nI t) := by
  have cf : (nI f).toNatClampNeg = f := nI_clamp (by omega)
  have ct : (nI t).toNatClampNeg = t := nI_clamp (by omega)
  have i1 : vp_in (nI f) 24 := pk_in f 24 hf
  have i2 : vp_in (nI t) 24 := pk_in t 24 ht
  unfold wpY_move
  dsimp only
  rw [cf, ct]
  exact ⟨i1, i2, nm_e ⟨i1, i2, nm_e ⟨i1, i2, nm_e ⟨i1, i2, nm_e ⟨17, yk_move50 (kw := upd kw t (kw f)) (kh := upd kh t (kh f)) (kf := upd kf t (kf f)) (kz := upd kz t (kz f)) hf ht hp 17 0 (by omega) (by omega)⟩⟩⟩⟩⟩
theorem yk_close74 {post : Int32 → SY → Prop} {J29 : Int32 → Int32 → Int32 → Int32 → Int32 → Int32 → (Nat → Int32) → (Nat → Int32) → (Nat → Int32) → (Nat → Int32) → (Nat → Int32) → (Nat → Int32) → (Nat → Int32) → (Nat → Int32) → (Nat → Int32) → (Nat → Int32) → (Nat → Int32) → (Nat → Int32) → (Nat → Int32) → (Nat → Int32) → (Nat → Int32) → (Nat → Int32) → (Nat → Int32) → (Nat → Int32) → (Nat → Int32) → (Nat → Int32) → (Nat → Int32) → (Nat → Int32) → (Nat → Int32) → (Nat → Int32) → (Nat → Int32) → (Nat → Int32) → (Nat → Int32) → (Nat → Int32) → (Nat → Int32) → (Nat → Int32) → (Nat → Int32) → (Nat → Int32) → (Nat → Int32) → (Nat → Int32) → (Nat → Int32) → (Nat → Int32) → (Nat → Int32) → (Nat → Int32) → (Nat → Int32) → (Nat → Int32) → (Nat → Int32) → (Nat → Int32) → Prop} {x1 x2 x3 x4 x5 : Int32} {q n : Nat} (hq : q < 24) (hn : n ≤ 16) (hz : kz q = nI n)
    (hend : ∀ f, wY_closes_74 post J29 x1 x2 x3 x4 x5 (nI q) fr en ma wr (f + 1) (nI n) st lf cd ta bg kc ob ol pb pn yp ki le go mk cb mb ml la ps pd pt kw kh kf kz ky th pl md cr gc lc lr wh od tg tr so bd (bk_mv wo 3 (fun k => ky (q * 16 + k)) n) be) :
    ∀ f k, k ≤ n → n - k < f → wY_closes_74 post J29 x1 x2 x3 x4 x5 (nI q) fr en ma wr f (nI k) st lf cd ta bg kc ob ol pb pn yp ki le go mk cb mb ml la ps pd pt kw kh kf kz ky th pl md cr gc lc lr wh od tg tr so bd (bk_mv wo 3 (fun k => ky (q * 16 + k)) k) be
  | 0, k, _, h => by omega
  | f + 1, k, h1, h2 => by
    by_cases e : k = n
    · subst e; exact hend f
    · have cq : (nI q).toNatClampNeg = q := nI_clamp (by omega)
      have e1 : 16 * nI q + nI k = nI (q * 16 + k) := by rw [bn_mul2, nI_add, Nat.mul_comm]
      have e2 : 3 + nI k = nI (3 + k) := bn_add2 k 3
      have c1 : (nI (q * 16 + k)).toNatClampNeg = q * 16 + k := nI_clamp (by omega)
      have c2 : (nI (3 + k)).toNatClampNeg = 3 + k := nI_clamp (by omega)
      refine ⟨pk_in q 24 hq, ?_⟩
      rw [cq, hz, e1, e2, c1, c2]
      refine br_f (nI_ge (by omega) (by omega)) ⟨vp_in_nI (by omega) (by omega), vp_in_nI (by omega) (by omega), nm_e (nm_r (nI_1 k) ?_)⟩
      exact yk_close74 hq hn hz hend f (k + 1) (by omega) (by omega)
end MOVE
end
section
section CLOSE
variable {st pl md cr : Nat → Int32}
theorem lk_close {s x c : Nat} (hs : s < 4) (hx : x = 1 ∨ x = 2) (hc6 : c ≤ 6) {kb kl kw kh kf kz ky : Nat → Int32} (K : ∀ i, i < c → ∃ w a y n, bk_K1 kb kl kw kh kf kz ky (s * 7 + i) (6 * s + i) w a y n) :
    ∀ (N : Nat) {B : Nat} {A : Nat → List bk_E} {g : Nat → Nat} {ob : Nat → Int32} {ol : Nat → Int32} {gc : Nat → Int32} {lc : Nat → Int32} {lr : Nat → Int32} {gv : Nat → Int32} {th : Nat → Int32} {hc : Nat → Int32} {hg : Nat → Int32} {hi : Nat → Int32} {ib : Nat → Int32} {il : Nat → Int32} {it : Nat → Int32} {qi : Nat → Int32} {qc : Nat → Int32} {ta : Nat → Int32} {wh : Nat → Int32} {od : Nat → Int32} {tg : Nat → Int32} {tr : Nat → Int32} {so : Nat → Int32} {bd : Nat → Int32} {fr : Int32} {en : Int32}, N ≤ c → bk_C B A g st ol th pl md cr lr gv ib il it qi qc ta wh od tg tr so bd fr en → bk_RH A hi hg hc → B + 16 * N ≤ 100000000 →
    ∃ d : bk_DT, bk_C (B + 16 * N) (zz_A d) (zz_g d) st (zz_ol d) (zz_th d) pl md cr (zz_lr d) (zz_gv d) (zz_ib d) (zz_il d) (zz_it d) (zz_qi d) (zz_qc d) (zz_ta d) (zz_wh d) (zz_od d) (zz_tg d) (zz_tr d) (zz_so d) (zz_bd d) (zz_fr d) (zz_en d) ∧ bk_RH (zz_A d) (zz_hi d) (zz_hg d) (zz_hc d) ∧ zz_th d = th ∧
      (∀ {lf cd bg pb pn xp fh fl fa mk cb mi mb ml pa kc co : Nat → Int32} {px : Int32} (post : SX → Prop) (f : Nat), N < f → post (px, st, lf, cd, bg, zz_gv d, zz_ob d, zz_ol d, pb, pn, xp, fh, fl, fa, mk, cb, mi, mb, ml, pa, kb, kl, kc, zz_th d, pl, md, cr, zz_hc d, zz_hg d, zz_hi d, zz_ib d, zz_il d, zz_it d, zz_qi d, zz_qc d, zz_gc d, zz_lc d, zz_lr d, co) → wX_doKept_10 post (nI s) (nI x) (nI c) f (nI (c - N)) px st lf cd bg gv ob ol pb pn xp fh fl fa mk cb mi mb ml pa kb kl kc th pl md cr hc hg hi ib il it qi qc gc lc lr co) ∧
      (∀ {lf cd bg kc pb pn yp ki le go mk cb mb ml la ps pd pt wo be : Nat → Int32} {ma wr : Int32}, ∃ wo' : Nat → Int32, ∀ (post : Int32 → SY → Prop) (f : Nat), N < f → post 1 (zz_fr d, zz_en d, ma, wr, st, lf, cd, zz_ta d, bg, upd kc s (nI (bk_nr (fun j => kf (6 * s + j)) (nI x) c)), zz_ob d, zz_ol d, pb, pn, yp, ki, le, go, mk, cb, mb, ml, la, ps, pd, pt, bk_c1 kw (6 * s) (fun j => kf (6 * s + j)) (nI x) (c), bk_c1 kh (6 * s) (fun j => kf (6 * s + j)) (nI x) (c), bk_c1 kf (6 * s) (fun j => kf (6 * s + j)) (nI x) (c), bk_c1 kz (6 * s) (fun j => kf (6 * s + j)) (nI x) (c), bk_cw 16 ky (6 * s) (fun j => kf (6 * s + j)) (nI x) (c), zz_th d, pl, md, cr, zz_gc d, zz_lc d, zz_lr d, zz_wh d, zz_od d, zz_tg d, zz_tr d, zz_so d, zz_bd d, wo', be) →
        wY_closes_29 post (nI s) (nI x) 1 (nI c) f (nI (bk_nr (fun j => kf (6 * s + j)) (nI x) (c - N))) (nI (6 * s + (c - N))) fr en ma wr st lf cd ta bg kc ob ol pb pn yp ki le go mk cb mb ml la ps pd pt (bk_c1 kw (6 * s) (fun j => kf (6 * s + j)) (nI x) (c - N)) (bk_c1 kh (6 * s) (fun j => kf (6 * s + j)) (nI x) (c - N)) (bk_c1 kf (6 * s) (fun j => kf (6 * s + j)) (nI x) (c - N)) (bk_c1 kz (6 * s) (fun j => kf (6 * s + j)) (nI x) (c - N)) (bk_cw 16 ky (6 * s) (fun j => kf (6 * s + j)) (nI x) (c - N)) th pl md cr gc lc lr wh od tg tr so bd wo be) := by
  have cs : (nI s).toNatClampNeg = s := nI_clamp (by omega)
  have e0 : 6 * nI s + nI c = nI (6 * s + c) := by rw [bn_mul2, nI_add]
  intro N
  induction N with
  | zero =>
    intro B A g ob ol gc lc lr gv th hc hg hi ib il it qi qc ta wh od tg tr so bd fr en _ h rh hB
    refine ⟨(A, g, ob, ol, gc, lc, lr, gv, th, hc, hg, hi, ib, il, it, qi, qc, ta, wh, od, tg, tr, so, bd, fr, en), h, rh, rfl, ?_, ?_⟩
    · intro lf cd bg pb pn xp fh fl fa mk cb mi mb ml pa kc co px post f hf hp
      obtain ⟨f, rfl⟩ : ∃ f', f = f' + 1 := ⟨f - 1, by omega⟩
      exact br_t (nI_le (by omega) (by omega)) hp
    · intro lf cd bg kc pb pn yp ki le go mk cb mb ml la ps pd pt wo be ma wr
      refine ⟨wo, fun post f hf hp => ?_⟩
      obtain ⟨f, rfl⟩ : ∃ f', f = f' + 1 := ⟨f - 1, by omega⟩
      refine br_t (by rw [e0]; exact nI_le (by omega) (by omega)) ⟨pk_in s 4 hs, ?_⟩
      rw [cs]
      exact nm_e hp
  | succ N ih =>
    intro B A g ob ol gc lc lr gv th hc hg hi ib il it qi qc ta wh od tg tr so bd fr en hN h rh hB
    obtain ⟨w, a, y, n, kk, hy, k0, k1, k2, k3, y0, y1, y2, y3, kbo⟩ := K (c - (N + 1)) (by omega)
    have ei : c - N = c - (N + 1) + 1 := by omega
    generalize hi0 : c - (N + 1) = i at *
    have hic : i < c := by omega
    have nle_ := bk_nr_le (fun j => kf (6 * s + j)) (nI x) i
    have hn16 : n ≤ 16 := by omega
    have hF : (fun j => kf (6 * s + j)) i = nI y := y2
    -- Y's rows at this place
    have q0 : bk_c1 kw (6 * s) (fun j => kf (6 * s + j)) (nI x) i (6 * s + i) = nI w := by rw [bk_c1_o kw _ _ _ _ _ (by omega)]; exact y0
    have q1 : bk_c1 kh (6 * s) (fun j => kf (6 * s + j)) (nI x) i (6 * s + i) = nI a := by rw [bk_c1_o kh _ _ _ _ _ (by omega)]; exact y1
    have q2 : bk_c1 kf (6 * s) (fun j => kf (6 * s + j)) (nI x) i (6 * s + i) = nI y := by rw [bk_c1_o kf _ _ _ _ _ (by omega)]; exact y2
    have q3 : bk_c1 kz (6 * s) (fun j => kf (6 * s + j)) (nI x) i (6 * s + i) = nI n := by rw [bk_c1_o kz _ _ _ _ _ (by omega)]; exact y3
    have q4 : ∀ k, k < n → bk_cw 16 ky (6 * s) (fun j => kf (6 * s + j)) (nI x) i ((6 * s + i) * 16 + k) = kb ((s * 7 + i) * 19 + 3 + k) := by
      intro k hk
      rw [bk_cw_o 16 ky _ _ _ _ _ k (by omega) (by omega), kbo k hk]
      exact congrArg ky (by omega)
    have cq : (nI (6 * s + i)).toNatClampNeg = 6 * s + i := nI_clamp (by omega)
    have iq : vp_in (nI (6 * s + i)) 24 := vp_in_nI (by omega) (by omega)
    have nle : ¬ 6 * nI s + nI c ≤ nI (6 * s + i) := by rw [e0]; exact nI_ge (by omega) (by omega)
    by_cases e : y = x
    · subst e
      obtain ⟨d1, h1, r1, t1, x1, yd1⟩ := lk_do (ob := ob) (gc := gc) (lc := lc) (s := s) (w := w) (a := a) (n := n) h rh (by omega) hs kk (fun j => kb ((s * 7 + i) * 19 + 3 + j))
      obtain ⟨d, h2, r2, t2, x2, yd2⟩ := ih (ob := zz_ob d1) (gc := zz_gc d1) (lc := zz_lc d1) (by omega) h1 r1 (by omega)
      refine ⟨d, by rw [show B + 16 + 16 * N = B + 16 * (N + 1) by omega] at h2; exact h2, r2, t2.trans t1, ?_, ?_⟩
      · intro lf cd bg pb pn xp fh fl fa mk cb mi mb ml pa kc co px post f hf hp
        obtain ⟨f, rfl⟩ : ∃ f', f = f' + 1 := ⟨f - 1, by omega⟩
        refine x1 post f i (nI y) (nI c) (by omega) k0 k1 k2 k3 (fun _ _ => rfl) (nI_ge hic (by omega)) ?_
        rw [← ei]
        exact x2 post f (by omega) hp
      · intro lf cd bg kc pb pn yp ki le go mk cb mb ml la ps pd pt wo be ma wr
        obtain ⟨wo', z⟩ := yd2 (lf := lf) (cd := cd) (bg := bg) (kc := kc) (pb := pb) (pn := pn) (yp := yp) (ki := ki) (le := le) (go := go) (mk := mk) (cb := cb) (mb := mb) (ml := ml) (la := la) (ps := ps) (pd := pd) (pt := pt) (wo := bk_mv wo 3 (fun k => bk_cw 16 ky (6 * s) (fun j => kf (6 * s + j)) (nI y) i ((6 * s + i) * 16 + k)) n) (be := be) (ma := ma) (wr := wr)
        refine ⟨wo', fun post f hf hp => ?_⟩
        obtain ⟨f, rfl⟩ : ∃ f', f = f' + 1 := ⟨f - 1, by omega⟩
        have zz := z post f (by omega) hp
        rw [ei, bk_nr_eq (fun j => kf (6 * s + j)) (nI y) (n := i) hF, bk_c1_t kw (6 * s) (fun j => kf (6 * s + j)) (nI y) i hF, bk_c1_t kh (6 * s) (fun j => kf (6 * s + j)) (nI y) i hF, bk_c1_t kf (6 * s) (fun j => kf (6 * s + j)) (nI y) i hF, bk_c1_t kz (6 * s) (fun j => kf (6 * s + j)) (nI y) i hF, bk_cw_t 16 ky (6 * s) (fun j => kf (6 * s + j)) (nI y) i hF] at zz
        refine br_f nle ⟨iq, ?_⟩
        rw [cq, q2]
        refine br_t rfl ⟨n + 1, yk_close74 (kz := bk_c1 kz (6 * s) (fun j => kf (6 * s + j)) (nI y) i) (ky := bk_cw 16 ky (6 * s) (fun j => kf (6 * s + j)) (nI y) i) (by omega) hn16 q3 (fun g => ⟨iq, ?_⟩) (n + 1) 0 (by omega) (by omega)⟩
        rw [cq, q3, q0, q1]
        refine br_t (nI_le (Nat.le_refl _) (by omega)) (br_f (by decide) ⟨iq, iq, iq, ?_⟩)
        refine yd1 _ (fun j hj => ?_) (nm_r (nI_1 (6 * s + i)) zz)
        rw [bk_mv_i _ 3 _ n j hj]
        exact q4 j hj
    · obtain ⟨d, h2, r2, t2, x2, yd2⟩ := ih (ob := ob) (gc := gc) (lc := lc) (by omega) h rh (by omega)
      have hF' : (fun j => kf (6 * s + j)) i ≠ nI x := by
        rw [hF]
        intro z
        exact e ((nI_eq (by omega) (by omega)).mp z)
      refine ⟨d, dk_mono h2 (by omega), r2, t2, ?_, ?_⟩
      · intro lf cd bg pb pn xp fh fl fa mk cb mi mb ml pa kc co px post f hf hp
        obtain ⟨f, rfl⟩ : ∃ f', f = f' + 1 := ⟨f - 1, by omega⟩
        have e1 : nI s * 7 + nI i = nI (s * 7 + i) := by rw [bn_mul, nI_add]
        have e2 : nI (s * 7 + i) * 19 = nI ((s * 7 + i) * 19) := bn_mul _ 19
        have e3 : nI ((s * 7 + i) * 19) + 2 = nI ((s * 7 + i) * 19 + 2) := bn_add _ 2
        have c2 : (nI ((s * 7 + i) * 19 + 2)).toNatClampNeg = (s * 7 + i) * 19 + 2 := nI_clamp (by omega)
        refine br_f (nI_ge hic (by omega)) (nm_r e1 (nm_r e2 ?_))
        rw [e3, c2, k2]
        refine ⟨vp_in_nI (by omega) (by omega), br_f (fun z => e ((nI_eq (by omega) (by omega)).mp z)) (nm_r (nI_1 i) ?_)⟩
        rw [← ei]
        exact x2 post f (by omega) hp
      · intro lf cd bg kc pb pn yp ki le go mk cb mb ml la ps pd pt wo be ma wr
        obtain ⟨wo', z⟩ := yd2 (lf := lf) (cd := cd) (bg := bg) (kc := kc) (pb := pb) (pn := pn) (yp := yp) (ki := ki) (le := le) (go := go) (mk := mk) (cb := cb) (mb := mb) (ml := ml) (la := la) (ps := ps) (pd := pd) (pt := pt) (wo := wo) (be := be) (ma := ma) (wr := wr)
        refine ⟨wo', fun post f hf hp => ?_⟩
        obtain ⟨f, rfl⟩ : ∃ f', f = f' + 1 := ⟨f - 1, by omega⟩
        have zz := z post f (by omega) hp
        rw [ei, bk_nr_up (fun j => kf (6 * s + j)) (nI x) (n := i) hF', bk_c1_f kw (6 * s) (fun j => kf (6 * s + j)) (nI x) i hF', bk_c1_f kh (6 * s) (fun j => kf (6 * s + j)) (nI x) i hF', bk_c1_f kf (6 * s) (fun j => kf (6 * s + j)) (nI x) i hF', bk_c1_f kz (6 * s) (fun j => kf (6 * s + j)) (nI x) i hF', bk_cw_f 16 ky (6 * s) (fun j => kf (6 * s + j)) (nI x) i hF'] at zz
        have e3 : 6 * nI s + nI (bk_nr (fun j => kf (6 * s + j)) (nI x) i) = nI (6 * s + bk_nr (fun j => kf (6 * s + j)) (nI x) i) := by rw [bn_mul2, nI_add]
        refine br_f nle ⟨iq, ?_⟩
        rw [cq, q2, e3]
        refine br_f (fun z => e ((nI_eq (by omega) (by omega)).mp z)) (yk_move (by omega) (by omega) (nm_r (nI_1 _) (nm_r (nI_1 (6 * s + i)) zz)))
end CLOSE
end
section
/-! what is kept, after a transaction's end and after keeping -/
section KEPT3
variable {kc kb kl kw kh kf kz ky : Nat → Int32}
theorem bk_K1_of {kb' kl' kw' kh' kf' kz' ky' : Nat → Int32} {p q p' q' w a x n : Nat} (h : bk_K1 kb kl kw kh kf kz ky p q w a x n) (h1 : ∀ k, k < 19 → kb' (p' * 19 + k) = kb (p * 19 + k)) (h2 : kl' p' = kl p)
    (h3 : kw' q' = kw q) (h4 : kh' q' = kh q) (h5 : kf' q' = kf q) (h6 : kz' q' = kz q) (h7 : ∀ k, k < 16 → ky' (16 * q' + k) = ky (16 * q + k)) : bk_K1 kb' kl' kw' kh' kf' kz' ky' p' q' w a x n := by
  obtain ⟨a1, a2, a3, a4, a5, a6, a7, a8, a9, a10, a11⟩ := h
  have z := h1 0 (by omega)
  rw [Nat.add_zero, Nat.add_zero] at z
  refine ⟨a1, a2, z.trans a3, (h1 1 (by omega)).trans a4, (h1 2 (by omega)).trans a5, h2.trans a6, h3.trans a7, h4.trans a8, h5.trans a9, h6.trans a10, fun j hj => ?_⟩
  have hn : n ≤ 16 := by omega
  rw [h7 j (by omega), ← a11 j hj, Nat.add_assoc, h1 (3 + j) (by omega), Nat.add_assoc]
/-- X's and Y's rows after a transaction's end -/
theorem bk_K_close (K : ∀ z, z < 4 → bk_K kc kb kl kw kh kf kz ky z) {s x c : Nat} (hs : s < 4) (hx : x < 256) (hc : kc s = nI c) (hc6 : c ≤ 6) :
    bk_nr (fun j => kb ((s * 7 + j) * 19 + 2)) (nI x) c = bk_nr (fun j => kf (6 * s + j)) (nI x) c ∧ ∀ z, z < 4 → bk_K (upd kc s (nI (bk_nr (fun j => kf (6 * s + j)) (nI x) c))) (bk_cw 19 kb (s * 7) (fun j => kb ((s * 7 + j) * 19 + 2)) (nI x) c) (bk_c1 kl (s * 7) (fun j => kb ((s * 7 + j) * 19 + 2)) (nI x) c) (bk_c1 kw (6 * s) (fun j => kf (6 * s + j)) (nI x) c) (bk_c1 kh (6 * s) (fun j => kf (6 * s + j)) (nI x) c) (bk_c1 kf (6 * s) (fun j => kf (6 * s + j)) (nI x) c) (bk_c1 kz (6 * s) (fun j => kf (6 * s + j)) (nI x) c) (bk_cw 16 ky (6 * s) (fun j => kf (6 * s + j)) (nI x) c) z := by
  obtain ⟨c', hc6', e', Ks⟩ := K s hs
  rw [hc] at e'
  have e' : c = c' := (nI_eq (by omega) (by omega)).mp e'
  subst e'
  have hFX : ∀ j, j < c → (fun j => kb ((s * 7 + j) * 19 + 2)) j = (fun j => kf (6 * s + j)) j := by
    intro j hj
    obtain ⟨w, a, y, n, kk, hy, k0, k1, k2, k3, y0, y1, y2, y3, kbo⟩ := Ks j hj
    exact k2.trans y2.symm
  have nrE : ∀ i, i ≤ c → bk_nr (fun j => kb ((s * 7 + j) * 19 + 2)) (nI x) i = bk_nr (fun j => kf (6 * s + j)) (nI x) i := fun i hi => bk_nr_congr _ _ _ i (fun j hj => hFX j (by omega))
  have le := bk_nr_le (fun j => kf (6 * s + j)) (nI x) c
  refine ⟨nrE c (Nat.le_refl _), fun z hz => ?_⟩
  have lx := nrE c (Nat.le_refl _)
  by_cases e : z = s
  · subst e
    refine ⟨bk_nr (fun j => kf (6 * z + j)) (nI x) c, by omega, pk_us, fun m hm => ?_⟩
    obtain ⟨j, hj, hjx, rfl⟩ := bk_nr_ex (fun j => kf (6 * z + j)) (nI x) c m hm
    obtain ⟨w, a, y, n, k⟩ := Ks j hj
    have hjx' : (fun j => kb ((z * 7 + j) * 19 + 2)) j ≠ nI x := by rw [hFX j hj]; exact hjx
    refine ⟨w, a, y, n, bk_K1_of k (fun k hk => ?_) ?_ (bk_c1_i kw _ _ _ c j hj hjx) (bk_c1_i kh _ _ _ c j hj hjx) (bk_c1_i kf _ _ _ c j hj hjx) (bk_c1_i kz _ _ _ c j hj hjx) (fun k hk => ?_)⟩
    · rw [← nrE j (by omega)]
      exact bk_cw_i 19 kb (z * 7) (fun j => kb ((z * 7 + j) * 19 + 2)) (nI x) c j k hk hj hjx'
    · rw [← nrE j (by omega)]
      exact bk_c1_i kl (z * 7) (fun j => kb ((z * 7 + j) * 19 + 2)) (nI x) c j hj hjx'
    · have := bk_cw_i 16 ky (6 * z) (fun j => kf (6 * z + j)) (nI x) c j k hk hj hjx
      rw [Nat.mul_comm 16 (6 * z + bk_nr (fun j => kf (6 * z + j)) (nI x) j), Nat.mul_comm 16 (6 * z + j)]
      exact this
  · obtain ⟨c2, hc2, e2, K2⟩ := K z hz
    refine ⟨c2, hc2, by rw [pk_un e]; exact e2, fun i hi => ?_⟩
    obtain ⟨w, a, y, n, k⟩ := K2 i hi
    refine ⟨w, a, y, n, bk_K1_of k (fun k hk => ?_) ?_ ?_ ?_ ?_ ?_ (fun k hk => ?_)⟩
    · exact bk_cw_o 19 kb (s * 7) (fun j => kb ((s * 7 + j) * 19 + 2)) (nI x) c (z * 7 + i) k hk (by omega)
    · exact bk_c1_o kl (s * 7) (fun j => kb ((s * 7 + j) * 19 + 2)) (nI x) c (z * 7 + i) (by omega)
    · exact bk_c1_o kw (6 * s) (fun j => kf (6 * s + j)) (nI x) c _ (by omega)
    · exact bk_c1_o kh (6 * s) (fun j => kf (6 * s + j)) (nI x) c _ (by omega)
    · exact bk_c1_o kf (6 * s) (fun j => kf (6 * s + j)) (nI x) c _ (by omega)
    · exact bk_c1_o kz (6 * s) (fun j => kf (6 * s + j)) (nI x) c _ (by omega)
    · have := bk_cw_o 16 ky (6 * s) (fun j => kf (6 * s + j)) (nI x) c (6 * z + i) k hk (by omega)
      rw [Nat.mul_comm 16 (6 * z + i)]
      exact this
/-- X's rows change beyond what is kept -/
theorem bk_K_beyond (K : ∀ z, z < 4 → bk_K kc kb kl kw kh kf kz ky z) {s c : Nat} (hs : s < 4) (hc : kc s = nI c) (hc6 : c ≤ 6) {kb' kl' : Nat → Int32}
    (hb : ∀ m k, m < 28 → m ≠ s * 7 + c → k < 19 → kb' (m * 19 + k) = kb (m * 19 + k)) (hl : ∀ m, m < 28 → m ≠ s * 7 + c → kl' m = kl m) : ∀ z, z < 4 → bk_K kc kb' kl' kw kh kf kz ky z := by
  intro z hz
  obtain ⟨c2, hc2, e2, K2⟩ := K z hz
  refine ⟨c2, hc2, e2, fun i hi => ?_⟩
  have ne : z * 7 + i ≠ s * 7 + c := by
    intro x
    have ez : z = s := by omega
    subst ez
    rw [hc] at e2
    have := (nI_eq (by omega) (by omega)).mp e2
    omega
  obtain ⟨w, a, y, n, k⟩ := K2 i hi
  exact ⟨w, a, y, n, bk_K1_of k (fun k hk => hb _ k (by omega) ne hk) (hl _ (by omega) ne) rfl rfl rfl rfl (fun _ _ => rfl)⟩
/-- one more is kept -/
theorem bk_K_more (K : ∀ z, z < 4 → bk_K kc kb kl kw kh kf kz ky z) {s c w a x n : Nat} (hs : s < 4) (hc : kc s = nI c) (hc6 : c < 6) {kb' kl' kw' kh' kf' kz' ky' : Nat → Int32}
    (hb : ∀ m k, m < 28 → m ≠ s * 7 + c → k < 19 → kb' (m * 19 + k) = kb (m * 19 + k)) (hl : ∀ m, m < 28 → m ≠ s * 7 + c → kl' m = kl m)
    (h3 : ∀ m, m ≠ 6 * s + c → kw' m = kw m) (h4 : ∀ m, m ≠ 6 * s + c → kh' m = kh m) (h5 : ∀ m, m ≠ 6 * s + c → kf' m = kf m) (h6 : ∀ m, m ≠ 6 * s + c → kz' m = kz m) (h7 : ∀ m k, m ≠ 6 * s + c → k < 16 → ky' (16 * m + k) = ky (16 * m + k))
    (new : bk_K1 kb' kl' kw' kh' kf' kz' ky' (s * 7 + c) (6 * s + c) w a x n) : ∀ z, z < 4 → bk_K (upd kc s (nI (c + 1))) kb' kl' kw' kh' kf' kz' ky' z := by
  have old : ∀ z i, z < 4 → i ≤ 6 → (z ≠ s ∨ i < c) → (∃ w a y n, bk_K1 kb kl kw kh kf kz ky (z * 7 + i) (6 * z + i) w a y n) → i < 6 → ∃ w a y n, bk_K1 kb' kl' kw' kh' kf' kz' ky' (z * 7 + i) (6 * z + i) w a y n := by
    rintro z i hz hi hne ⟨w, a, y, n, k⟩ hi6
    exact ⟨w, a, y, n, bk_K1_of k (fun k hk => hb _ k (by omega) (by omega) hk) (hl _ (by omega) (by omega)) (h3 _ (by omega)) (h4 _ (by omega)) (h5 _ (by omega)) (h6 _ (by omega)) (fun k hk => h7 _ k (by omega) hk)⟩
  intro z hz
  obtain ⟨c2, hc2, e2, K2⟩ := K z hz
  by_cases e : z = s
  · subst e
    rw [hc] at e2
    have e2 : c = c2 := (nI_eq (by omega) (by omega)).mp e2
    subst e2
    refine ⟨c + 1, by omega, pk_us, fun i hi => ?_⟩
    by_cases ei : i = c
    · subst ei; exact ⟨w, a, x, n, new⟩
    · exact old z i hz (by omega) (Or.inr (by omega)) (K2 i (by omega)) (by omega)
  · exact ⟨c2, hc2, by rw [pk_un e]; exact e2, fun i hi => old z i hz (by omega) (Or.inl e) (K2 i hi) (by omega)⟩
/-- none is kept any more in session s -/
theorem bk_K_none (K : ∀ z, z < 4 → bk_K kc kb kl kw kh kf kz ky z) (s : Nat) : ∀ z, z < 4 → bk_K (upd kc s 0) kb kl kw kh kf kz ky z := by
  intro z hz
  by_cases e : z = s
  · subst e
    exact ⟨0, by omega, pk_us, fun i hi => absurd hi (Nat.not_lt_zero i)⟩
  · obtain ⟨c2, hc2, e2, K2⟩ := K z hz
    exact ⟨c2, hc2, by rw [pk_un e]; exact e2, K2⟩
end KEPT3
section KEEP
variable {B : Nat} {A : Nat → List bk_E} {g : Nat → Nat} {st lf cd bg gv ob ol pb pn xp fh fl fa mk cb mi mb ml pa kb kl kc th pl md cr hc hg hi ib il it qi qc gc lc lr co ta yp ki le go la ps pd pt kw kh kf kz ky wh od tg tr so bd wo be : Nat → Int32} {px fr en ma wr : Int32}
theorem yk_close0 {s x c : Nat} (hs : s < 4) (hx : x < 256) (hc6 : c ≤ 6) (K : ∀ i, i < c → ∃ w a y n, bk_K1 kb kl kw kh kf kz ky (s * 7 + i) (6 * s + i) w a y n) :
    ∀ (N : Nat), N ≤ c → ∀ wo : Nat → Int32, ∃ wo' : Nat → Int32, ∀ (post : Int32 → SY → Prop) (f : Nat), N < f → post 1 (fr, en, ma, wr, st, lf, cd, ta, bg, upd kc s (nI (bk_nr (fun j => kf (6 * s + j)) (nI x) c)), ob, ol, pb, pn, yp, ki, le, go, mk, cb, mb, ml, la, ps, pd, pt, bk_c1 kw (6 * s) (fun j => kf (6 * s + j)) (nI x) (c), bk_c1 kh (6 * s) (fun j => kf (6 * s + j)) (nI x) (c), bk_c1 kf (6 * s) (fun j => kf (6 * s + j)) (nI x) (c), bk_c1 kz (6 * s) (fun j => kf (6 * s + j)) (nI x) (c), bk_cw 16 ky (6 * s) (fun j => kf (6 * s + j)) (nI x) (c), th, pl, md, cr, gc, lc, lr, wh, od, tg, tr, so, bd, wo', be) →
        wY_closes_29 post (nI s) (nI x) 0 (nI c) f (nI (bk_nr (fun j => kf (6 * s + j)) (nI x) (c - N))) (nI (6 * s + (c - N))) fr en ma wr st lf cd ta bg kc ob ol pb pn yp ki le go mk cb mb ml la ps pd pt (bk_c1 kw (6 * s) (fun j => kf (6 * s + j)) (nI x) (c - N)) (bk_c1 kh (6 * s) (fun j => kf (6 * s + j)) (nI x) (c - N)) (bk_c1 kf (6 * s) (fun j => kf (6 * s + j)) (nI x) (c - N)) (bk_c1 kz (6 * s) (fun j => kf (6 * s + j)) (nI x) (c - N)) (bk_cw 16 ky (6 * s) (fun j => kf (6 * s + j)) (nI x) (c - N)) th pl md cr gc lc lr wh od tg tr so bd wo be := by
  have cs : (nI s).toNatClampNeg = s := nI_clamp (by omega)
  have e0 : 6 * nI s + nI c = nI (6 * s + c) := by rw [bn_mul2, nI_add]
  intro N
  induction N with
  | zero =>
    intro _ wo
    refine ⟨wo, fun post f hf hp => ?_⟩
    obtain ⟨f, rfl⟩ : ∃ f', f = f' + 1 := ⟨f - 1, by omega⟩
    refine br_t (by rw [e0]; exact nI_le (by omega) (by omega)) ⟨pk_in s 4 hs, ?_⟩
    rw [cs]
    exact nm_e hp
  | succ N ih =>
    intro hN wo
    obtain ⟨w, a, y, n, kk, hy, k0, k1, k2, k3, y0, y1, y2, y3, kbo⟩ := K (c - (N + 1)) (by omega)
    have ei : c - N = c - (N + 1) + 1 := by omega
    generalize hi0 : c - (N + 1) = i at *
    have hic : i < c := by omega
    have nle_ := bk_nr_le (fun j => kf (6 * s + j)) (nI x) i
    have hn16 : n ≤ 16 := by omega
    have hF : (fun j => kf (6 * s + j)) i = nI y := y2
    have q2 : bk_c1 kf (6 * s) (fun j => kf (6 * s + j)) (nI x) i (6 * s + i) = nI y := by rw [bk_c1_o kf _ _ _ _ _ (by omega)]; exact y2
    have q3 : bk_c1 kz (6 * s) (fun j => kf (6 * s + j)) (nI x) i (6 * s + i) = nI n := by rw [bk_c1_o kz _ _ _ _ _ (by omega)]; exact y3
    have cq : (nI (6 * s + i)).toNatClampNeg = 6 * s + i := nI_clamp (by omega)
    have iq : vp_in (nI (6 * s + i)) 24 := vp_in_nI (by omega) (by omega)
    have nle : ¬ 6 * nI s + nI c ≤ nI (6 * s + i) := by rw [e0]; exact nI_ge (by omega) (by omega)
    by_cases e : y = x
    · subst e
      obtain ⟨wo', z⟩ := ih (by omega) (bk_mv wo 3 (fun k => bk_cw 16 ky (6 * s) (fun j => kf (6 * s + j)) (nI y) i ((6 * s + i) * 16 + k)) n)
      refine ⟨wo', fun post f hf hp => ?_⟩
      obtain ⟨f, rfl⟩ : ∃ f', f = f' + 1 := ⟨f - 1, by omega⟩
      have zz := z post f (by omega) hp
      rw [ei, bk_nr_eq (fun j => kf (6 * s + j)) (nI y) (n := i) hF, bk_c1_t kw (6 * s) (fun j => kf (6 * s + j)) (nI y) i hF, bk_c1_t kh (6 * s) (fun j => kf (6 * s + j)) (nI y) i hF, bk_c1_t kf (6 * s) (fun j => kf (6 * s + j)) (nI y) i hF, bk_c1_t kz (6 * s) (fun j => kf (6 * s + j)) (nI y) i hF, bk_cw_t 16 ky (6 * s) (fun j => kf (6 * s + j)) (nI y) i hF] at zz
      refine br_f nle ⟨iq, ?_⟩
      rw [cq, q2]
      refine br_t rfl ⟨n + 1, yk_close74 (kz := bk_c1 kz (6 * s) (fun j => kf (6 * s + j)) (nI y) i) (ky := bk_cw 16 ky (6 * s) (fun j => kf (6 * s + j)) (nI y) i) (by omega) hn16 q3 (fun g => ⟨iq, ?_⟩) (n + 1) 0 (by omega) (by omega)⟩
      rw [cq, q3]
      exact br_t (nI_le (Nat.le_refl _) (by omega)) (br_t rfl (nm_r (nI_1 (6 * s + i)) zz))
    · obtain ⟨wo', z⟩ := ih (by omega) wo
      have hF' : (fun j => kf (6 * s + j)) i ≠ nI x := by
        rw [hF]
        intro z
        exact e ((nI_eq (by omega) (by omega)).mp z)
      refine ⟨wo', fun post f hf hp => ?_⟩
      obtain ⟨f, rfl⟩ : ∃ f', f = f' + 1 := ⟨f - 1, by omega⟩
      have zz := z post f (by omega) hp
      rw [ei, bk_nr_up (fun j => kf (6 * s + j)) (nI x) (n := i) hF', bk_c1_f kw (6 * s) (fun j => kf (6 * s + j)) (nI x) i hF', bk_c1_f kh (6 * s) (fun j => kf (6 * s + j)) (nI x) i hF', bk_c1_f kf (6 * s) (fun j => kf (6 * s + j)) (nI x) i hF', bk_c1_f kz (6 * s) (fun j => kf (6 * s + j)) (nI x) i hF', bk_cw_f 16 ky (6 * s) (fun j => kf (6 * s + j)) (nI x) i hF'] at zz
      have e3 : 6 * nI s + nI (bk_nr (fun j => kf (6 * s + j)) (nI x) i) = nI (6 * s + bk_nr (fun j => kf (6 * s + j)) (nI x) i) := by rw [bn_mul2, nI_add]
      refine br_f nle ⟨iq, ?_⟩
      rw [cq, q2, e3]
      refine br_f (fun z => e ((nI_eq (by omega) (by omega)).mp z)) (yk_move (by omega) (by omega) (nm_r (nI_1 _) (nm_r (nI_1 (6 * s + i)) zz)))
theorem xk_keep14 {post : SX → Prop} {s c m : Nat} (hs : s < 4) (hc6 : c ≤ 6) (hm : m ≤ 19) (hc' : kc s = nI c)
    (hp : post (nI m, st, lf, cd, bg, gv, ob, ol, pb, pn, xp, fh, fl, fa, mk, cb, mi, mb, ml, pa, bk_mv kb ((s * 7 + c) * 19) pa m, upd kl (s * 7 + c) (nI m), upd kc s (nI (c + 1)), th, pl, md, cr, hc, hg, hi, ib, il, it, qi, qc, gc, lc, lr, co)) :
    ∀ f k, k ≤ m → m - k < f → wX_keep_14 post (nI s) (nI (s * 7 + c)) (nI m) f (nI k) st lf cd bg gv ob ol pb pn xp fh fl fa mk cb mi mb ml pa (bk_mv kb ((s * 7 + c) * 19) pa k) kl kc th pl md cr hc hg hi ib il it qi qc gc lc lr co
  | 0, k, _, h => by omega
  | f + 1, k, h1, h2 => by
    have cs : (nI s).toNatClampNeg = s := nI_clamp (by omega)
    have cp : (nI (s * 7 + c)).toNatClampNeg = s * 7 + c := nI_clamp (by omega)
    have ck : (nI k).toNatClampNeg = k := nI_clamp (by omega)
    have e1 : nI (s * 7 + c) * 19 + nI k = nI ((s * 7 + c) * 19 + k) := by rw [bn_mul, nI_add]
    have c1 : (nI ((s * 7 + c) * 19 + k)).toNatClampNeg = (s * 7 + c) * 19 + k := nI_clamp (by omega)
    refine pk_le m k (fun g => ⟨vp_in_nI (by omega) (by omega), ?_⟩) (fun g => br_f (nI_ge (b := 19) (by omega) (by omega)) ?_)
    · have : k = m := by omega
      subst this
      rw [cs, cp, hc', nI_1]
      exact nm_e ⟨pk_in s 4 hs, pk_in s 4 hs, nm_e hp⟩
    · rw [e1, c1, ck]
      exact ⟨vp_in_nI (by omega) (by omega), vp_in_nI (by omega) (by omega), nm_e (nm_r (nI_1 k) (xk_keep14 hs hc6 hm hc' hp f (k + 1) (by omega) (by omega)))⟩
theorem xk_keep {post : SX → Prop} {s c m : Nat} (hs : s < 4) (hc6 : c ≤ 6) (hm : m ≤ 19) (hc' : kc s = nI c)
    (hp : post (nI m, st, lf, cd, bg, gv, ob, ol, pb, pn, xp, fh, fl, fa, mk, cb, mi, mb, ml, pa, bk_mv kb ((s * 7 + c) * 19) pa m, upd kl (s * 7 + c) (nI m), upd kc s (nI (c + 1)), th, pl, md, cr, hc, hg, hi, ib, il, it, qi, qc, gc, lc, lr, co)) : wpX_keep post (nI m, st, lf, cd, bg, gv, ob, ol, pb, pn, xp, fh, fl, fa, mk, cb, mi, mb, ml, pa, kb, kl, kc, th, pl, md, cr, hc, hg, hi, ib, il, it, qi, qc, gc, lc, lr, co) (nI s) := by
  have cs : (nI s).toNatClampNeg = s := nI_clamp (by omega)
  have e1 : nI s * 7 + nI c = nI (s * 7 + c) := by rw [bn_mul, nI_add]
  refine ⟨pk_in s 4 hs, ?_⟩
  rw [cs, hc']
  exact nm_r e1 ⟨m + 1, xk_keep14 hs hc6 hm hc' hp (m + 1) 0 (by omega) (by omega)⟩
theorem yk_does111 {post : Int32 → SY → Prop} {q n : Nat} (hq : q < 24) (hn : n ≤ 16) (hp : post 1 (fr, en, ma, wr, st, lf, cd, ta, bg, kc, ob, ol, pb, pn, yp, ki, le, go, mk, cb, mb, ml, la, ps, pd, pt, kw, kh, kf, kz, bk_mv ky (q * 16) (fun k => wo (3 + k)) n, th, pl, md, cr, gc, lc, lr, wh, od, tg, tr, so, bd, wo, be)) :
    ∀ f k, k ≤ n → n - k < f → wY_does_111 post (nI n) (nI q) fr en ma wr f (nI k) st lf cd ta bg kc ob ol pb pn yp ki le go mk cb mb ml la ps pd pt kw kh kf kz (bk_mv ky (q * 16) (fun k => wo (3 + k)) k) th pl md cr gc lc lr wh od tg tr so bd wo be
  | 0, k, _, h => by omega
  | f + 1, k, h1, h2 => by
    have e1 : 3 + nI k = nI (3 + k) := bn_add2 k 3
    have e2 : 16 * nI q + nI k = nI (q * 16 + k) := by rw [bn_mul2, nI_add, Nat.mul_comm]
    have c1 : (nI (3 + k)).toNatClampNeg = 3 + k := nI_clamp (by omega)
    have c2 : (nI (q * 16 + k)).toNatClampNeg = q * 16 + k := nI_clamp (by omega)
    refine pk_le n k (fun g => ?_) (fun g => ?_)
    · have : k = n := by omega
      subst this
      exact hp
    · rw [e1, e2, c1, c2]
      exact ⟨vp_in_nI (by omega) (by omega), vp_in_nI (by omega) (by omega), nm_e (nm_r (nI_1 k) (yk_does111 hq hn hp f (k + 1) (by omega) (by omega)))⟩
/-- Y keeps -/
theorem yk_keep {post : Int32 → SY → Prop} {s c n : Nat} {w a x : Int32} (hs : s < 4) (hc6 : c < 6) (hn : n ≤ 16) (hc' : kc s = nI c) (hx : x ≠ 0)
    (hp : post 1 (fr, en, ma, wr, st, lf, cd, ta, bg, upd kc s (nI (c + 1)), ob, ol, pb, pn, yp, ki, le, go, mk, cb, mb, ml, la, ps, pd, pt, upd kw (6 * s + c) w, upd kh (6 * s + c) a, upd kf (6 * s + c) x, upd kz (6 * s + c) (nI n), bk_mv ky ((6 * s + c) * 16) (fun k => wo (3 + k)) n, th, pl, md, cr, gc, lc, lr, wh, od, tg, tr, so, bd, wo, be)) : wpY_does post (fr, en, ma, wr, st, lf, cd, ta, bg, kc, ob, ol, pb, pn, yp, ki, le, go, mk, cb, mb, ml, la, ps, pd, pt, kw, kh, kf, kz, ky, th, pl, md, cr, gc, lc, lr, wh, od, tg, tr, so, bd, wo, be) (nI s) w a x (nI n) := by
  have cs : (nI s).toNatClampNeg = s := nI_clamp (by omega)
  have e1 : 6 * nI s + nI c = nI (6 * s + c) := by rw [bn_mul2, nI_add]
  have cq : (nI (6 * s + c)).toNatClampNeg = 6 * s + c := nI_clamp (by omega)
  have iq : vp_in (nI (6 * s + c)) 24 := vp_in_nI (by omega) (by omega)
  have i4 : vp_in (nI s) 4 := pk_in s 4 hs
  refine br_f hx ⟨i4, ?_⟩
  rw [cs, hc', nI_1]
  refine br_f (fun z => absurd ((nI_eq (a := c) (b := 6) (by omega) (by omega)).mp z) (by omega)) ⟨i4, nm_r e1 ⟨i4, i4, nm_e ⟨iq, ?_⟩⟩⟩
  rw [cq]
  exact nm_e ⟨iq, nm_e ⟨iq, nm_e ⟨iq, nm_e ⟨n + 1, yk_does111 (kc := upd kc s (nI (c + 1))) (kw := upd kw (6 * s + c) w) (kh := upd kh (6 * s + c) a) (kf := upd kf (6 * s + c) x) (kz := upd kz (6 * s + c) (nI n)) (by omega) hn hp (n + 1) 0 (by omega) (by omega)⟩⟩⟩⟩
end KEEP
end
section
/-! what a command asks -/
def bk_Beg (b v : Nat) : Prop := (v = 1 ∧ b % 2 = 1) ∨ (v = 2 ∧ 2 ≤ b)
theorem bk_bit1 : ∀ b, b < 4 → ((nI b &&& nI 1 = 0 ↔ b % 2 ≠ 1) ∧ (((nI b >>> ((nI 1 - 1) &&& 31)) &&& 1) = 1 ↔ b % 2 = 1)) := by decide +kernel
theorem bk_bit2 : ∀ b, b < 4 → ((nI b &&& nI 2 = 0 ↔ ¬ 2 ≤ b) ∧ (((nI b >>> ((nI 2 - 1) &&& 31)) &&& 1) = 1 ↔ 2 ≤ b)) := by decide +kernel
theorem bk_bor : ∀ b, b < 4 → ∀ v, v < 3 → ∃ c, c < 4 ∧ nI b ||| nI v = nI c := by
  intro b hb v hv
  have h : b = 0 ∨ b = 1 ∨ b = 2 ∨ b = 3 := by omega
  have h2 : v = 0 ∨ v = 1 ∨ v = 2 := by omega
  rcases h with rfl | rfl | rfl | rfl <;> rcases h2 with rfl | rfl | rfl
  · exact ⟨0, by omega, by decide⟩
  · exact ⟨1, by omega, by decide⟩
  · exact ⟨2, by omega, by decide⟩
  · exact ⟨1, by omega, by decide⟩
  · exact ⟨1, by omega, by decide⟩
  · exact ⟨3, by omega, by decide⟩
  · exact ⟨2, by omega, by decide⟩
  · exact ⟨3, by omega, by decide⟩
  · exact ⟨2, by omega, by decide⟩
  · exact ⟨3, by omega, by decide⟩
  · exact ⟨3, by omega, by decide⟩
  · exact ⟨3, by omega, by decide⟩
theorem bk_band : ∀ b, b < 4 → ∀ v, v < 3 → ∃ c, c < 4 ∧ nI b &&& (nI v ^^^ (-1)) = nI c := by
  intro b hb v hv
  have h : b = 0 ∨ b = 1 ∨ b = 2 ∨ b = 3 := by omega
  have h2 : v = 0 ∨ v = 1 ∨ v = 2 := by omega
  rcases h with rfl | rfl | rfl | rfl <;> rcases h2 with rfl | rfl | rfl
  · exact ⟨0, by omega, by decide⟩
  · exact ⟨0, by omega, by decide⟩
  · exact ⟨0, by omega, by decide⟩
  · exact ⟨1, by omega, by decide⟩
  · exact ⟨0, by omega, by decide⟩
  · exact ⟨1, by omega, by decide⟩
  · exact ⟨2, by omega, by decide⟩
  · exact ⟨2, by omega, by decide⟩
  · exact ⟨0, by omega, by decide⟩
  · exact ⟨3, by omega, by decide⟩
  · exact ⟨2, by omega, by decide⟩
  · exact ⟨1, by omega, by decide⟩
section ASK
variable {B : Nat} {A : Nat → List bk_E} {g : Nat → Nat} {st lf cd bg gv ob ol pb pn xp fh fl fa mk cb mi mb ml pa kb kl kc th pl md cr hc hg hi ib il it qi qc gc lc lr co ta yp ki le go la ps pd pt kw kh kf kz ky wh od tg tr so bd wo be : Nat → Int32} {px fr en ma wr : Int32}
theorem xk_isBegun {post : Int32 → Prop} {s b v : Nat} (hs : s < 4) (hb : bg s = nI b) (hb4 : b < 4) (hv : v < 256) (h1 : bk_Beg b v → post 1) (h0 : ¬ bk_Beg b v → post 0) : wpX_isBegun post (px, st, lf, cd, bg, gv, ob, ol, pb, pn, xp, fh, fl, fa, mk, cb, mi, mb, ml, pa, kb, kl, kc, th, pl, md, cr, hc, hg, hi, ib, il, it, qi, qc, gc, lc, lr, co) (nI s) (nI v) := by
  have cs : (nI s).toNatClampNeg = s := nI_clamp (by omega)
  refine pk_eq v 1 (fun e => ?_) (fun e => pk_eq v 2 (fun e2 => ?_) (fun e2 => h0 (fun z => ?_)))
  · subst e
    refine ⟨pk_in s 4 hs, ?_⟩
    rw [cs, hb]
    refine br_c (fun z => h0 (fun w => ?_)) (fun z => h1 (Or.inl ⟨rfl, ?_⟩))
    · have := (bk_bit1 b hb4).1.mp z
      rcases w with w | w <;> omega
    · apply Classical.byContradiction
      intro w
      exact z ((bk_bit1 b hb4).1.mpr w)
  · subst e2
    refine ⟨pk_in s 4 hs, ?_⟩
    rw [cs, hb]
    refine br_c (fun z => h0 (fun w => ?_)) (fun z => h1 (Or.inr ⟨rfl, ?_⟩))
    · have := (bk_bit2 b hb4).1.mp z
      rcases w with w | w <;> omega
    · apply Classical.byContradiction
      intro w
      exact z ((bk_bit2 b hb4).1.mpr w)
  · rcases z with z | z <;> omega
theorem yk_may {post : Int32 → Prop} {s b v : Nat} (hs : s < 4) (hb : bg s = nI b) (hb4 : b < 4) (hv : v < 256) (h1 : (v = 0 ∨ bk_Beg b v) → post 1) (h0 : ¬ (v = 0 ∨ bk_Beg b v) → post 0) : wpY_may post (fr, en, ma, wr, st, lf, cd, ta, bg, kc, ob, ol, pb, pn, yp, ki, le, go, mk, cb, mb, ml, la, ps, pd, pt, kw, kh, kf, kz, ky, th, pl, md, cr, gc, lc, lr, wh, od, tg, tr, so, bd, wo, be) (nI s) (nI v) := by
  have cs : (nI s).toNatClampNeg = s := nI_clamp (by omega)
  refine pk_eq v 0 (fun e => h1 (Or.inl e)) (fun e0 => pk_eq v 1 (fun e => ?_) (fun e => pk_eq v 2 (fun e2 => ?_) (fun e2 => h0 (fun z => ?_))))
  · subst e
    refine ⟨pk_in s 4 hs, ?_⟩
    rw [cs, hb]
    refine br_c (fun z => h1 (Or.inr (Or.inl ⟨rfl, (bk_bit1 b hb4).2.mp z⟩))) (fun z => h0 (fun w => z ((bk_bit1 b hb4).2.mpr ?_)))
    rcases w with w | w | w <;> omega
  · subst e2
    refine ⟨pk_in s 4 hs, ?_⟩
    rw [cs, hb]
    refine br_c (fun z => h1 (Or.inr (Or.inr ⟨rfl, (bk_bit2 b hb4).2.mp z⟩))) (fun z => h0 (fun w => z ((bk_bit2 b hb4).2.mpr ?_)))
    rcases w with w | w | w <;> omega
  · rcases z with z | z | z <;> omega
theorem xk_mayBeIn {post : Int32 → Prop} {s b v c : Nat} (hs : s < 4) (hb : bg s = nI b) (hb4 : b < 4) (hv : v < 256) (hc' : kc s = nI c) (hc6 : c ≤ 6) (h1 : (v = 0 ∨ (bk_Beg b v ∧ c < 6)) → post 1) (h0 : ¬ (v = 0 ∨ (bk_Beg b v ∧ c < 6)) → post 0) : wpX_mayBeIn post (px, st, lf, cd, bg, gv, ob, ol, pb, pn, xp, fh, fl, fa, mk, cb, mi, mb, ml, pa, kb, kl, kc, th, pl, md, cr, hc, hg, hi, ib, il, it, qi, qc, gc, lc, lr, co) (nI s) (nI v) := by
  have cs : (nI s).toNatClampNeg = s := nI_clamp (by omega)
  refine pk_eq v 0 (fun e => h1 (Or.inl e)) (fun e0 => ?_)
  refine xk_isBegun hs hb hb4 hv (fun w => br_f (by decide) ⟨pk_in s 4 hs, ?_⟩) (fun w => br_t rfl (h0 (fun z => ?_)))
  · rw [cs, hc']
    refine pk_le 6 c (fun z => h0 (fun y => ?_)) (fun z => h1 (Or.inr ⟨w, z⟩))
    rcases y with y | y
    · exact e0 y
    · omega
  · rcases z with z | z
    · exact e0 z
    · exact w z.1
theorem xk_isPlace {post : Int32 → Prop} {v : Nat} (hv : v < 256) (h1 : v < 6 → post 1) (h0 : 6 ≤ v → post 0) : wpX_isPlace post (px, st, lf, cd, bg, gv, ob, ol, pb, pn, xp, fh, fl, fa, mk, cb, mi, mb, ml, pa, kb, kl, kc, th, pl, md, cr, hc, hg, hi, ib, il, it, qi, qc, gc, lc, lr, co) (nI v) :=
  br_f (nI_pos (by omega)) (pk_le 6 v h0 h1)
end ASK
end
section
/-! which messages are commands -/
def bk_Vd (th : Nat → Int32) (s m b c : Nat) (v : Nat → Nat) : Prop :=
  (v 0 = 1 ∧ m = 5 ∧ v 1 < 4 ∧ th (4 * s + v 1) = 0 ∧ v 2 < 6 ∧ v 3 < 3 ∧ 1 ≤ v 4 ∧ v 4 ≤ 5) ∨
  (v 0 = 2 ∧ m = 2 ∧ v 1 < 4 ∧ th (4 * s + v 1) ≠ 0) ∨
  (v 0 = 3 ∧ 4 ≤ m ∧ m ≤ 19 ∧ v 1 < 6 ∧ (v 2 = 0 ∨ (bk_Beg b (v 2) ∧ c < 6))) ∨
  (v 0 = 4 ∧ m = 3 ∧ (v 2 = 0 ∨ (bk_Beg b (v 2) ∧ c < 6))) ∨
  (v 0 = 5 ∧ m = 3 ∧ (v 2 = 0 ∨ (bk_Beg b (v 2) ∧ c < 6))) ∨
  (v 0 = 6 ∧ m = 2 ∧ (v 1 = 1 ∨ v 1 = 2) ∧ ¬ bk_Beg b (v 1)) ∨
  (v 0 = 7 ∧ m = 2 ∧ bk_Beg b (v 1)) ∨
  (v 0 = 8 ∧ m = 2 ∧ bk_Beg b (v 1)) ∨
  (v 0 = 9 ∧ m = 2)
section VD
variable {th : Nat → Int32} {s m b c : Nat} {v : Nat → Nat}
theorem vd_0 (h : v 0 = 0 ∨ 10 ≤ v 0) : ¬ bk_Vd th s m b c v := by
  unfold bk_Vd
  rintro (z | z | z | z | z | z | z | z | z) <;> omega
theorem vd_1 (h : v 0 = 1) : bk_Vd th s m b c v ↔ (m = 5 ∧ v 1 < 4 ∧ th (4 * s + v 1) = 0 ∧ v 2 < 6 ∧ v 3 < 3 ∧ 1 ≤ v 4 ∧ v 4 ≤ 5) := by
  unfold bk_Vd
  constructor
  · rintro (z | z | z | z | z | z | z | z | z) <;> first | exact z.2 | (exfalso; omega)
  · intro z; exact Or.inl ⟨h, z⟩
theorem vd_2 (h : v 0 = 2) : bk_Vd th s m b c v ↔ (m = 2 ∧ v 1 < 4 ∧ th (4 * s + v 1) ≠ 0) := by
  unfold bk_Vd
  constructor
  · rintro (z | z | z | z | z | z | z | z | z) <;> first | exact z.2 | (exfalso; omega)
  · intro z; exact Or.inr (Or.inl ⟨h, z⟩)
theorem vd_3 (h : v 0 = 3) : bk_Vd th s m b c v ↔ (4 ≤ m ∧ m ≤ 19 ∧ v 1 < 6 ∧ (v 2 = 0 ∨ (bk_Beg b (v 2) ∧ c < 6))) := by
  unfold bk_Vd
  constructor
  · rintro (z | z | z | z | z | z | z | z | z) <;> first | exact z.2 | (exfalso; omega)
  · intro z; exact Or.inr (Or.inr (Or.inl ⟨h, z⟩))
theorem vd_4 (h : v 0 = 4) : bk_Vd th s m b c v ↔ (m = 3 ∧ (v 2 = 0 ∨ (bk_Beg b (v 2) ∧ c < 6))) := by
  unfold bk_Vd
  constructor
  · rintro (z | z | z | z | z | z | z | z | z) <;> first | exact z.2 | (exfalso; omega)
  · intro z; exact Or.inr (Or.inr (Or.inr (Or.inl ⟨h, z⟩)))
theorem vd_5 (h : v 0 = 5) : bk_Vd th s m b c v ↔ (m = 3 ∧ (v 2 = 0 ∨ (bk_Beg b (v 2) ∧ c < 6))) := by
  unfold bk_Vd
  constructor
  · rintro (z | z | z | z | z | z | z | z | z) <;> first | exact z.2 | (exfalso; omega)
  · intro z; exact Or.inr (Or.inr (Or.inr (Or.inr (Or.inl ⟨h, z⟩))))
theorem vd_6 (h : v 0 = 6) : bk_Vd th s m b c v ↔ (m = 2 ∧ (v 1 = 1 ∨ v 1 = 2) ∧ ¬ bk_Beg b (v 1)) := by
  unfold bk_Vd
  constructor
  · rintro (z | z | z | z | z | z | z | z | z) <;> first | exact z.2 | (exfalso; omega)
  · intro z; exact Or.inr (Or.inr (Or.inr (Or.inr (Or.inr (Or.inl ⟨h, z⟩)))))
theorem vd_7 (h : v 0 = 7) : bk_Vd th s m b c v ↔ (m = 2 ∧ bk_Beg b (v 1)) := by
  unfold bk_Vd
  constructor
  · rintro (z | z | z | z | z | z | z | z | z) <;> first | exact z.2 | (exfalso; omega)
  · intro z; exact Or.inr (Or.inr (Or.inr (Or.inr (Or.inr (Or.inr (Or.inl ⟨h, z⟩))))))
theorem vd_8 (h : v 0 = 8) : bk_Vd th s m b c v ↔ (m = 2 ∧ bk_Beg b (v 1)) := by
  unfold bk_Vd
  constructor
  · rintro (z | z | z | z | z | z | z | z | z) <;> first | exact z.2 | (exfalso; omega)
  · intro z; exact Or.inr (Or.inr (Or.inr (Or.inr (Or.inr (Or.inr (Or.inr (Or.inl ⟨h, z⟩)))))))
theorem vd_9 (h : v 0 = 9) : bk_Vd th s m b c v ↔ (m = 2) := by
  unfold bk_Vd
  constructor
  · rintro (z | z | z | z | z | z | z | z | z) <;> first | exact z.2 | (exfalso; omega)
  · intro z; exact Or.inr (Or.inr (Or.inr (Or.inr (Or.inr (Or.inr (Or.inr (Or.inr (⟨h, z⟩))))))))
end VD
section ISC
variable {B : Nat} {A : Nat → List bk_E} {g : Nat → Nat} {st lf cd bg gv ob ol pb pn xp fh fl fa mk cb mi mb ml pa kb kl kc th pl md cr hc hg hi ib il it qi qc gc lc lr co ta yp ki le go la ps pd pt kw kh kf kz ky wh od tg tr so bd wo be : Nat → Int32} {px fr en ma wr : Int32}
theorem bk_code (x : Nat) : (x = 0 ∨ 10 ≤ x) ∨ x = 1 ∨ x = 2 ∨ x = 3 ∨ x = 4 ∨ x = 5 ∨ x = 6 ∨ x = 7 ∨ x = 8 ∨ x = 9 := by omega
theorem xk_isCommand {post : Int32 → Prop} {s m b c : Nat} {v : Nat → Nat} (hs : s < 4) (hm : m ≤ 200) (hv : ∀ j, v j < 256) (hpa : ∀ j, j < m → pa j = nI (v j)) (hb : bg s = nI b) (hb4 : b < 4) (hc' : kc s = nI c) (hc6 : c ≤ 6)
    (h1 : 1 ≤ m → bk_Vd th s m b c v → post 1) (h0 : (m = 0 ∨ ¬ bk_Vd th s m b c v) → post 0) : wpX_isCommand post (nI m, st, lf, cd, bg, gv, ob, ol, pb, pn, xp, fh, fl, fa, mk, cb, mi, mb, ml, pa, kb, kl, kc, th, pl, md, cr, hc, hg, hi, ib, il, it, qi, qc, gc, lc, lr, co) (nI s) := by
  have h01 : narrow .boolean (.int 0) = .int 0 := bn_n0
  have h11 : narrow .boolean (.int 1) = .int 1 := bn_n1
  have hv0 := hv 0
  have hv1 := hv 1
  have hv2 := hv 2
  have hv3 := hv 3
  have hv4 := hv 4
  refine pk_eq m 0 (fun e => h0 (Or.inl e)) (fun e => nm_r (hpa 0 (by omega)) ?_)
  have h0' : ¬ bk_Vd th s m b c v → post 0 := fun z => h0 (Or.inr z)
  have h1' : bk_Vd th s m b c v → post 1 := h1 (by omega)
  have e4 : v 1 < 4 → nI s * 4 + nI (v 1) = nI (4 * s + v 1) ∧ (nI (4 * s + v 1)).toNatClampNeg = 4 * s + v 1 := fun g => ⟨by rw [bn_mul, nI_add, Nat.mul_comm], nI_clamp (by omega)⟩
  rcases bk_code (v 0) with k | k | k | k | k | k | k | k | k | k
  · have n := vd_0 (th := th) (s := s) (m := m) (b := b) (c := c) k
    exact pk_lt (v 0) 1 (fun _ => h0' n) (fun g => pk_lt 9 (v 0) (fun _ => h0' n) (fun g2 => by omega))
  · rw [vd_1 k] at h0' h1'
    rw [k]
    refine br_f (by decide) (br_f (by decide) (br_t rfl (pk_eq m 5 (fun e5 => ?_) (fun e5 => ⟨h01, h0' (fun z => e5 z.1)⟩))))
    rw [hpa 1 (by omega), hpa 2 (by omega), hpa 3 (by omega), hpa 4 (by omega)]
    refine pk_le 4 (v 1) (fun g => ⟨h01, h0' (fun z => by omega)⟩) (fun g => ?_)
    rw [(e4 g).1, (e4 g).2]
    refine ⟨vp_in_nI (by omega) (by omega), br_c (fun g2 => xk_isPlace hv2 (fun g3 => br_f (by decide) ?_) (fun g3 => br_t rfl ⟨h01, h0' (fun z => by omega)⟩)) (fun g2 => ⟨h01, h0' (fun z => g2 z.2.2.1)⟩)⟩
    refine pk_le 3 (v 3) (fun g4 => ⟨h01, h0' (fun z => by omega)⟩) (fun g4 => pk_lt (v 4) 1 (fun g5 => ⟨h01, h0' (fun z => by omega)⟩) (fun g5 => pk_lt 5 (v 4) (fun g6 => ⟨h01, h0' (fun z => by omega)⟩) (fun g6 => ⟨h11, h1' ⟨e5, g, g2, g3, g4, g5, g6⟩⟩)))
  · rw [vd_2 k] at h0' h1'
    rw [k]
    refine br_f (by decide) (br_f (by decide) (br_f (by decide) (br_t rfl (pk_eq m 2 (fun e5 => ?_) (fun e5 => h0' (fun z => e5 z.1))))))
    rw [hpa 1 (by omega)]
    refine pk_le 4 (v 1) (fun g => h0' (fun z => by omega)) (fun g => ?_)
    rw [(e4 g).1, (e4 g).2]
    exact ⟨vp_in_nI (by omega) (by omega), br_c (fun g2 => h0' (fun z => z.2.2 g2)) (fun g2 => h1' ⟨e5, g, g2⟩)⟩
  · rw [vd_3 k] at h0' h1'
    rw [k]
    refine br_f (by decide) (br_f (by decide) (br_f (by decide) (br_f (by decide) (br_t rfl (pk_le m 3 (fun e5 => h0' (fun z => by omega)) (fun e5 => pk_lt 19 m (fun e6 => h0' (fun z => by omega)) (fun e6 => ?_)))))))
    rw [hpa 1 (by omega), hpa 2 (by omega)]
    refine xk_isPlace hv1 (fun g => br_f (by decide) ?_) (fun g => br_t rfl (h0' (fun z => by omega)))
    exact xk_mayBeIn hs hb hb4 hv2 hc' hc6 (fun w => br_f (by decide) (h1' ⟨e5, e6, g, w⟩)) (fun w => br_t rfl (h0' (fun z => w z.2.2.2)))
  · rw [vd_4 k] at h0' h1'
    rw [k]
    refine br_f (by decide) (br_f (by decide) (br_f (by decide) (br_f (by decide) (br_f (by decide) (br_t rfl (pk_eq m 3 (fun e5 => ?_) (fun e5 => h0' (fun z => e5 z.1))))))))
    rw [hpa 2 (by omega)]
    exact xk_mayBeIn hs hb hb4 hv2 hc' hc6 (fun w => br_f (by decide) (h1' ⟨e5, w⟩)) (fun w => br_t rfl (h0' (fun z => w z.2)))
  · rw [vd_5 k] at h0' h1'
    rw [k]
    refine br_f (by decide) (br_f (by decide) (br_f (by decide) (br_f (by decide) (br_f (by decide) (br_f (by decide) (br_t rfl (pk_eq m 3 (fun e5 => ?_) (fun e5 => h0' (fun z => e5 z.1)))))))))
    rw [hpa 2 (by omega)]
    exact xk_mayBeIn hs hb hb4 hv2 hc' hc6 (fun w => br_f (by decide) (h1' ⟨e5, w⟩)) (fun w => br_t rfl (h0' (fun z => w z.2)))
  · rw [vd_6 k] at h0' h1'
    rw [k]
    refine br_f (by decide) (br_f (by decide) (br_f (by decide) (br_f (by decide) (br_f (by decide) (br_f (by decide) (br_f (by decide) (br_t rfl (pk_eq m 2 (fun e5 => ?_) (fun e5 => h0' (fun z => e5 z.1))))))))))
    have fin : (v 1 = 1 ∨ v 1 = 2) → wX_isCommand_218 post (nI s) (nI m) st lf cd bg gv ob ol pb pn xp fh fl fa mk cb mi mb ml pa kb kl kc th pl md cr hc hg hi ib il it qi qc gc lc lr co := by
      intro w
      show wpX_isBegun _ _ _ (pa 1)
      rw [hpa 1 (by omega)]
      exact xk_isBegun hs hb hb4 hv1 (fun w2 => br_f (by decide) (h0' (fun z => z.2.2 w2))) (fun w2 => br_t rfl (h1' ⟨e5, w, w2⟩))
    rw [hpa 1 (by omega)]
    exact pk_eq (v 1) 1 (fun w => fin (Or.inl w)) (fun w => pk_eq (v 1) 2 (fun w => fin (Or.inr w)) (fun w' => h0' (fun z => by omega)))
  · rw [vd_7 k] at h0' h1'
    rw [k]
    refine br_f (by decide) (br_f (by decide) (br_f (by decide) (br_f (by decide) (br_f (by decide) (br_f (by decide) (br_f (by decide) (br_f (by decide) (br_t rfl (pk_eq m 2 (fun e5 => ?_) (fun e5 => h0' (fun z => e5 z.1)))))))))))
    rw [hpa 1 (by omega)]
    exact xk_isBegun hs hb hb4 hv1 (fun w2 => br_f (by decide) (h1' ⟨e5, w2⟩)) (fun w2 => br_t rfl (h0' (fun z => w2 z.2)))
  · rw [vd_8 k] at h0' h1'
    rw [k]
    refine br_f (by decide) (br_f (by decide) (br_f (by decide) (br_f (by decide) (br_f (by decide) (br_f (by decide) (br_f (by decide) (br_f (by decide) (br_f (by decide) (br_t rfl (pk_eq m 2 (fun e5 => ?_) (fun e5 => h0' (fun z => e5 z.1))))))))))))
    rw [hpa 1 (by omega)]
    exact xk_isBegun hs hb hb4 hv1 (fun w2 => br_f (by decide) (h1' ⟨e5, w2⟩)) (fun w2 => br_t rfl (h0' (fun z => w2 z.2)))
  · rw [vd_9 k] at h0' h1'
    rw [k]
    exact br_f (by decide) (br_f (by decide) (br_f (by decide) (br_f (by decide) (br_f (by decide) (br_f (by decide) (br_f (by decide) (br_f (by decide) (br_f (by decide) (br_f (by decide) (br_t rfl (pk_eq m 2 (fun e5 => h1' e5) (fun e5 => h0' (fun z => e5 z)))))))))))))
end ISC
end
section
/-! Y's commands -/
section YCMD
variable {B : Nat} {A : Nat → List bk_E} {g : Nat → Nat} {st lf cd bg gv ob ol pb pn xp fh fl fa mk cb mi mb ml pa kb kl kc th pl md cr hc hg hi ib il it qi qc gc lc lr co ta yp ki le go la ps pd pt kw kh kf kz ky wh od tg tr so bd wo be : Nat → Int32} {px fr en ma wr : Int32}
theorem yk_subscribes {post : Int32 → SY → Prop} {s n t m c : Nat} (hs : s < 4) (hn : n < 256) (ht : t < 256) (hm : m < 256) (hc' : c < 256)
    (h1 : n < 4 → th (4 * s + n) = 0 → t < 6 → m < 3 → 1 ≤ c → c ≤ 5 → post 1 (fr, en, ma, wr, st, lf, cd, ta, bg, kc, ob, ol, pb, pn, yp, ki, le, go, mk, cb, mb, ml, la, ps, pd, pt, kw, kh, kf, kz, ky, upd th (4 * s + n) 1, upd pl (4 * s + n) (nI t), upd md (4 * s + n) (nI m), upd cr (4 * s + n) (nI c), gc, lc, lr, wh, od, tg, tr, so, bd, wo, be))
    (h0 : ¬ (n < 4 ∧ th (4 * s + n) = 0 ∧ t < 6 ∧ m < 3 ∧ 1 ≤ c ∧ c ≤ 5) → post 0 (fr, en, ma, wr, st, lf, cd, ta, bg, kc, ob, ol, pb, pn, yp, ki, le, go, mk, cb, mb, ml, la, ps, pd, pt, kw, kh, kf, kz, ky, th, pl, md, cr, gc, lc, lr, wh, od, tg, tr, so, bd, wo, be)) : wpY_subscribes post (fr, en, ma, wr, st, lf, cd, ta, bg, kc, ob, ol, pb, pn, yp, ki, le, go, mk, cb, mb, ml, la, ps, pd, pt, kw, kh, kf, kz, ky, th, pl, md, cr, gc, lc, lr, wh, od, tg, tr, so, bd, wo, be) (nI s) (nI n) (nI t) (nI m) (nI c) := by
  refine pk_lt 3 n (fun g => h0 (fun z => by omega)) (fun g => ?_)
  have e1 : 4 * nI s + nI n = nI (4 * s + n) := by rw [bn_mul2, nI_add]
  have c1 : (nI (4 * s + n)).toNatClampNeg = 4 * s + n := nI_clamp (by omega)
  have i16 : vp_in (nI (4 * s + n)) 16 := vp_in_nI (by omega) (by omega)
  rw [e1, c1, bn_b1]
  refine ⟨i16, br_c (fun g2 => ?_) (fun g2 => h0 (fun z => g2 z.2.1))⟩
  refine pk_lt 5 t (fun g3 => h0 (fun z => by omega)) (fun g3 => pk_lt 2 m (fun g4 => h0 (fun z => by omega)) (fun g4 => pk_lt c 1 (fun g5 => h0 (fun z => by omega)) (fun g5 => pk_le c 5 (fun g6 => ?_) (fun g6 => h0 (fun z => by omega)))))
  refine nm_e ⟨i16, ?_⟩
  rw [c1]
  exact nm_e ⟨i16, nm_e ⟨i16, nm_e ⟨i16, nm_e (h1 (by omega) g2 (by omega) (by omega) g5 g6)⟩⟩⟩
theorem yk_full {post : Int32 → SY → Prop} {s : Nat} {w a x n : Int32} (hs : s < 4) (hc' : kc s = 6) (hx : x ≠ 0) (hp : post 0 (fr, en, ma, wr, st, lf, cd, ta, bg, kc, ob, ol, pb, pn, yp, ki, le, go, mk, cb, mb, ml, la, ps, pd, pt, kw, kh, kf, kz, ky, th, pl, md, cr, gc, lc, lr, wh, od, tg, tr, so, bd, wo, be)) : wpY_does post (fr, en, ma, wr, st, lf, cd, ta, bg, kc, ob, ol, pb, pn, yp, ki, le, go, mk, cb, mb, ml, la, ps, pd, pt, kw, kh, kf, kz, ky, th, pl, md, cr, gc, lc, lr, wh, od, tg, tr, so, bd, wo, be) (nI s) w a x n := by
  have cs : (nI s).toNatClampNeg = s := nI_clamp (by omega)
  refine br_f hx ⟨pk_in s 4 hs, ?_⟩
  rw [cs]
  exact br_t hc' hp
theorem yk_command {post : Int32 → SY → Prop} {s m b c : Nat} {v : Nat → Nat} (hs : s < 4) (hm1 : 1 ≤ m) (hm : m ≤ 200) (hv : ∀ j, v j < 256) (hwo : ∀ j, j < m → wo j = nI (v j)) (hb : bg s = nI b) (hb4 : b < 4) (hc' : kc s = nI c) (hc6 : c ≤ 6)
    (h0 : ¬ bk_Vd th s m b c v → post 0 (fr, en, nI m, wr, st, lf, cd, ta, bg, kc, ob, ol, pb, pn, yp, ki, le, go, mk, cb, mb, ml, la, ps, pd, pt, kw, kh, kf, kz, ky, th, pl, md, cr, gc, lc, lr, wh, od, tg, tr, so, bd, wo, be))
    (g1 : bk_Vd th s m b c v → v 0 = 1 → post 1 (fr, en, nI m, wr, st, lf, cd, ta, bg, kc, ob, ol, pb, pn, yp, ki, le, go, mk, cb, mb, ml, la, ps, pd, pt, kw, kh, kf, kz, ky, upd th (4 * s + v 1) 1, upd pl (4 * s + v 1) (nI (v 2)), upd md (4 * s + v 1) (nI (v 3)), upd cr (4 * s + v 1) (nI (v 4)), gc, lc, lr, wh, od, tg, tr, so, bd, wo, be))
    (g2 : bk_Vd th s m b c v → v 0 = 2 → wpY_endsOne (fun u => match u with | (fr, en, ma, wr, st, lf, cd, ta, bg, kc, ob, ol, pb, pn, yp, ki, le, go, mk, cb, mb, ml, la, ps, pd, pt, kw, kh, kf, kz, ky, th, pl, md, cr, gc, lc, lr, wh, od, tg, tr, so, bd, wo, be) => post 1 (fr, en, ma, wr, st, lf, cd, ta, bg, kc, ob, ol, pb, pn, yp, ki, le, go, mk, cb, mb, ml, la, ps, pd, pt, kw, kh, kf, kz, ky, th, pl, md, cr, gc, lc, lr, wh, od, tg, tr, so, bd, wo, be)) (fr, en, nI m, wr, st, lf, cd, ta, bg, kc, ob, ol, pb, pn, yp, ki, le, go, mk, cb, mb, ml, la, ps, pd, pt, kw, kh, kf, kz, ky, th, pl, md, cr, gc, lc, lr, wh, od, tg, tr, so, bd, wo, be) (nI (4 * s + v 1)))
    (g3 : bk_Vd th s m b c v → v 0 = 3 → wpY_does (fun r u => match u with | (fr, en, ma, wr, st, lf, cd, ta, bg, kc, ob, ol, pb, pn, yp, ki, le, go, mk, cb, mb, ml, la, ps, pd, pt, kw, kh, kf, kz, ky, th, pl, md, cr, gc, lc, lr, wh, od, tg, tr, so, bd, wo, be) => ((r = 0 → post 0 (fr, en, ma, wr, st, lf, cd, ta, bg, kc, ob, ol, pb, pn, yp, ki, le, go, mk, cb, mb, ml, la, ps, pd, pt, kw, kh, kf, kz, ky, th, pl, md, cr, gc, lc, lr, wh, od, tg, tr, so, bd, wo, be)) ∧ (¬ r = 0 → post 1 (fr, en, ma, wr, st, lf, cd, ta, bg, kc, ob, ol, pb, pn, yp, ki, le, go, mk, cb, mb, ml, la, ps, pd, pt, kw, kh, kf, kz, ky, th, pl, md, cr, gc, lc, lr, wh, od, tg, tr, so, bd, wo, be)))) (fr, en, nI m, wr, st, lf, cd, ta, bg, kc, ob, ol, pb, pn, yp, ki, le, go, mk, cb, mb, ml, la, ps, pd, pt, kw, kh, kf, kz, ky, th, pl, md, cr, gc, lc, lr, wh, od, tg, tr, so, bd, wo, be) (nI s) (nI 3) (nI (v 1)) (nI (v 2)) (nI (m - 3)))
    (g4 : bk_Vd th s m b c v → v 0 = 4 ∨ v 0 = 5 → wpY_does (fun r u => match u with | (fr, en, ma, wr, st, lf, cd, ta, bg, kc, ob, ol, pb, pn, yp, ki, le, go, mk, cb, mb, ml, la, ps, pd, pt, kw, kh, kf, kz, ky, th, pl, md, cr, gc, lc, lr, wh, od, tg, tr, so, bd, wo, be) => ((r = 0 → post 0 (fr, en, ma, wr, st, lf, cd, ta, bg, kc, ob, ol, pb, pn, yp, ki, le, go, mk, cb, mb, ml, la, ps, pd, pt, kw, kh, kf, kz, ky, th, pl, md, cr, gc, lc, lr, wh, od, tg, tr, so, bd, wo, be)) ∧ (¬ r = 0 → post 1 (fr, en, ma, wr, st, lf, cd, ta, bg, kc, ob, ol, pb, pn, yp, ki, le, go, mk, cb, mb, ml, la, ps, pd, pt, kw, kh, kf, kz, ky, th, pl, md, cr, gc, lc, lr, wh, od, tg, tr, so, bd, wo, be)))) (fr, en, nI m, wr, st, lf, cd, ta, bg, kc, ob, ol, pb, pn, yp, ki, le, go, mk, cb, mb, ml, la, ps, pd, pt, kw, kh, kf, kz, ky, th, pl, md, cr, gc, lc, lr, wh, od, tg, tr, so, bd, wo, be) (nI s) (nI (v 0)) (nI (v 1)) (nI (v 2)) (nI 0))
    (g6 : bk_Vd th s m b c v → v 0 = 6 → post 1 (fr, en, nI m, wr, st, lf, cd, ta, upd bg s (bg s ||| nI (v 1)), kc, ob, ol, pb, pn, yp, ki, le, go, mk, cb, mb, ml, la, ps, pd, pt, kw, kh, kf, kz, ky, th, pl, md, cr, gc, lc, lr, wh, od, tg, tr, so, bd, wo, be))
    (g7 : bk_Vd th s m b c v → v 0 = 7 → wpY_closes (fun r u => match u with | (fr, en, ma, wr, st, lf, cd, ta, bg, kc, ob, ol, pb, pn, yp, ki, le, go, mk, cb, mb, ml, la, ps, pd, pt, kw, kh, kf, kz, ky, th, pl, md, cr, gc, lc, lr, wh, od, tg, tr, so, bd, wo, be) => ((r = 0 → post 0 (fr, en, ma, wr, st, lf, cd, ta, bg, kc, ob, ol, pb, pn, yp, ki, le, go, mk, cb, mb, ml, la, ps, pd, pt, kw, kh, kf, kz, ky, th, pl, md, cr, gc, lc, lr, wh, od, tg, tr, so, bd, wo, be)) ∧ (¬ r = 0 → post 1 (fr, en, ma, wr, st, lf, cd, ta, bg, kc, ob, ol, pb, pn, yp, ki, le, go, mk, cb, mb, ml, la, ps, pd, pt, kw, kh, kf, kz, ky, th, pl, md, cr, gc, lc, lr, wh, od, tg, tr, so, bd, wo, be)))) (fr, en, nI m, wr, st, lf, cd, ta, bg, kc, ob, ol, pb, pn, yp, ki, le, go, mk, cb, mb, ml, la, ps, pd, pt, kw, kh, kf, kz, ky, th, pl, md, cr, gc, lc, lr, wh, od, tg, tr, so, bd, wo, be) (nI s) (nI (v 1)) 1)
    (g8 : bk_Vd th s m b c v → v 0 = 8 → wpY_closes (fun r u => match u with | (fr, en, ma, wr, st, lf, cd, ta, bg, kc, ob, ol, pb, pn, yp, ki, le, go, mk, cb, mb, ml, la, ps, pd, pt, kw, kh, kf, kz, ky, th, pl, md, cr, gc, lc, lr, wh, od, tg, tr, so, bd, wo, be) => ((r = 0 → post 0 (fr, en, ma, wr, st, lf, cd, ta, bg, kc, ob, ol, pb, pn, yp, ki, le, go, mk, cb, mb, ml, la, ps, pd, pt, kw, kh, kf, kz, ky, th, pl, md, cr, gc, lc, lr, wh, od, tg, tr, so, bd, wo, be)) ∧ (¬ r = 0 → post 1 (fr, en, ma, wr, st, lf, cd, ta, bg, kc, ob, ol, pb, pn, yp, ki, le, go, mk, cb, mb, ml, la, ps, pd, pt, kw, kh, kf, kz, ky, th, pl, md, cr, gc, lc, lr, wh, od, tg, tr, so, bd, wo, be)))) (fr, en, nI m, wr, st, lf, cd, ta, bg, kc, ob, ol, pb, pn, yp, ki, le, go, mk, cb, mb, ml, la, ps, pd, pt, kw, kh, kf, kz, ky, th, pl, md, cr, gc, lc, lr, wh, od, tg, tr, so, bd, wo, be) (nI s) (nI (v 1)) 0)
    (g9 : bk_Vd th s m b c v → v 0 = 9 → wpY_write (fun u => match u with | (fr, en, ma, wr, st, lf, cd, ta, bg, kc, ob, ol, pb, pn, yp, ki, le, go, mk, cb, mb, ml, la, ps, pd, pt, kw, kh, kf, kz, ky, th, pl, md, cr, gc, lc, lr, wh, od, tg, tr, so, bd, wo, be) => wY_command_369 post fr en ma wr st lf cd ta bg kc ob ol pb pn yp ki le go mk cb mb ml la ps pd pt kw kh kf kz ky th pl md cr gc lc lr wh od tg tr so bd wo be) (fr, en, nI m, wr, st, lf, cd, ta, bg, kc, ob, ol, pb, pn, yp, ki, le, go, mk, cb, mb, ml, la, ps, pd, pt, kw, kh, kf, kz, ky, th, pl, md, cr, gc, lc, lr, wh, od, tg, tr, so, bd, wo, be) (nI s) 1 2) :
    wpY_command post (fr, en, nI m, wr, st, lf, cd, ta, bg, kc, ob, ol, pb, pn, yp, ki, le, go, mk, cb, mb, ml, la, ps, pd, pt, kw, kh, kf, kz, ky, th, pl, md, cr, gc, lc, lr, wh, od, tg, tr, so, bd, wo, be) (nI s) := by
  have cs : (nI s).toNatClampNeg = s := nI_clamp (by omega)
  have hv0 := hv 0
  have hv1 := hv 1
  have hv2 := hv 2
  have hv3 := hv 3
  have hv4 := hv 4
  have key : ∀ a z : Int32, (2 ≤ m → a = nI (v 1)) → (3 ≤ m → z = nI (v 2)) → wY_command_44 post (nI s) (nI (v 0)) a z fr en (nI m) wr st lf cd ta bg kc ob ol pb pn yp ki le go mk cb mb ml la ps pd pt kw kh kf kz ky th pl md cr gc lc lr wh od tg tr so bd wo be := by
    intro a z ha hz
    rcases bk_code (v 0) with k | k | k | k | k | k | k | k | k | k
    · have n := vd_0 (th := th) (s := s) (m := m) (b := b) (c := c) k
      exact pk_lt (v 0) 1 (fun _ => h0 n) (fun g => pk_lt 9 (v 0) (fun _ => h0 n) (fun g2 => by omega))
    · rw [vd_1 k] at h0 g1
      rw [k]
      refine br_f (by decide) (br_f (by decide) (br_t rfl (pk_eq m 5 (fun e5 => ?_) (fun e5 => h0 (fun z => e5 z.1)))))
      rw [ha (by omega), hz (by omega), hwo 3 (by omega), hwo 4 (by omega)]
      refine yk_subscribes hs hv1 hv2 hv3 hv4 (fun q1 q2 q3 q4 q5 q6 => br_f (by decide) (g1 ⟨e5, q1, q2, q3, q4, q5, q6⟩ k)) (fun q => br_t rfl (h0 (fun z => q z.2)))
    · rw [vd_2 k] at h0 g2
      rw [k]
      refine br_f (by decide) (br_f (by decide) (br_f (by decide) (br_t rfl (pk_eq m 2 (fun e5 => ?_) (fun e5 => h0 (fun z => e5 z.1))))))
      rw [ha (by omega)]
      refine pk_lt 3 (v 1) (fun g => h0 (fun z => by omega)) (fun g => ?_)
      have e1 : 4 * nI s + nI (v 1) = nI (4 * s + v 1) := by rw [bn_mul2, nI_add]
      have c1 : (nI (4 * s + v 1)).toNatClampNeg = 4 * s + v 1 := nI_clamp (by omega)
      rw [e1, c1]
      exact ⟨vp_in_nI (by omega) (by omega), br_c (fun q => h0 (fun z => z.2.2 q)) (fun q => g2 ⟨e5, by omega, q⟩ k)⟩
    · rw [vd_3 k] at h0 g3
      rw [k]
      refine br_f (by decide) (br_f (by decide) (br_f (by decide) (br_f (by decide) (br_t rfl (pk_le m 3 (fun e5 => h0 (fun z => by omega)) (fun e5 => pk_le 20 m (fun e6 => h0 (fun z => by omega)) (fun e6 => ?_)))))))
      have e3 : nI m - 3 = nI (m - 3) := pk_sub (a := m) (b := 3) (by omega)
      rw [ha (by omega), hz (by omega), e3]
      refine pk_le 6 (v 1) (fun g => h0 (fun z => by omega)) (fun g => ?_)
      refine yk_may hs hb hb4 hv2 (fun w => br_f (by decide) ?_) (fun w => br_t rfl (h0 (fun z => w ?_)))
      · by_cases q : v 2 = 0 ∨ (bk_Beg b (v 2) ∧ c < 6)
        · exact g3 ⟨by omega, by omega, g, q⟩ k
        · have cc : c = 6 := by
            rcases w with w | w
            · exact absurd (Or.inl w) q
            · apply Classical.byContradiction
              intro x
              exact q (Or.inr ⟨w, by omega⟩)
          exact yk_full hs (by rw [hc', cc]; rfl) (nI_ne0 (Nat.pos_of_ne_zero (fun x => q (Or.inl x))) (by omega)) (br_t rfl (h0 (fun z => q z.2.2.2)))
      · rcases z.2.2.2 with x | x
        · exact Or.inl x
        · exact Or.inr x.1
    · rw [vd_4 k] at h0 g4
      rw [k]
      refine br_f (by decide) (br_f (by decide) (br_f (by decide) (br_f (by decide) (br_f (by decide) (br_t rfl (pk_eq m 3 (fun e5 => ?_) (fun e5 => h0 (fun z => e5 z.1))))))))
      rw [ha (by omega), hz (by omega)]
      rw [k] at g4
      refine yk_may hs hb hb4 hv2 (fun w => br_f (by decide) ?_) (fun w => br_t rfl (h0 (fun z => w ?_)))
      · by_cases q : v 2 = 0 ∨ (bk_Beg b (v 2) ∧ c < 6)
        · exact g4 ⟨e5, q⟩ (by omega)
        · have cc : c = 6 := by
            rcases w with w | w
            · exact absurd (Or.inl w) q
            · apply Classical.byContradiction
              intro x
              exact q (Or.inr ⟨w, by omega⟩)
          exact yk_full hs (by rw [hc', cc]; rfl) (nI_ne0 (Nat.pos_of_ne_zero (fun x => q (Or.inl x))) (by omega)) (br_t rfl (h0 (fun z => q z.2)))
      · rcases z.2 with x | x
        · exact Or.inl x
        · exact Or.inr x.1
    · rw [vd_5 k] at h0 g4
      rw [k]
      refine br_f (by decide) (br_f (by decide) (br_f (by decide) (br_f (by decide) (br_f (by decide) (br_f (by decide) (br_t rfl (pk_eq m 3 (fun e5 => ?_) (fun e5 => h0 (fun z => e5 z.1)))))))))
      rw [ha (by omega), hz (by omega)]
      rw [k] at g4
      refine yk_may hs hb hb4 hv2 (fun w => br_f (by decide) ?_) (fun w => br_t rfl (h0 (fun z => w ?_)))
      · by_cases q : v 2 = 0 ∨ (bk_Beg b (v 2) ∧ c < 6)
        · exact g4 ⟨e5, q⟩ (by omega)
        · have cc : c = 6 := by
            rcases w with w | w
            · exact absurd (Or.inl w) q
            · apply Classical.byContradiction
              intro x
              exact q (Or.inr ⟨w, by omega⟩)
          exact yk_full hs (by rw [hc', cc]; rfl) (nI_ne0 (Nat.pos_of_ne_zero (fun x => q (Or.inl x))) (by omega)) (br_t rfl (h0 (fun z => q z.2)))
      · rcases z.2 with x | x
        · exact Or.inl x
        · exact Or.inr x.1
    · rw [vd_6 k] at h0 g6
      rw [k]
      refine br_f (by decide) (br_f (by decide) (br_f (by decide) (br_f (by decide) (br_f (by decide) (br_f (by decide) (br_f (by decide) (br_t rfl (pk_eq m 2 (fun e5 => ?_) (fun e5 => h0 (fun z => e5 z.1))))))))))
      rw [ha (by omega)]
      refine pk_lt (v 1) 1 (fun g => h0 (fun z => by omega)) (fun g => pk_lt 2 (v 1) (fun g' => h0 (fun z => by omega)) (fun g' => ?_))
      refine yk_may hs hb hb4 hv1 (fun w => br_f (by decide) (h0 (fun z => z.2.2 ?_))) (fun w => br_t rfl ⟨pk_in s 4 hs, pk_in s 4 hs, ?_⟩)
      · rcases w with w | w
        · omega
        · exact w
      · rw [cs]
        exact nm_e (g6 ⟨e5, by omega, fun x => w (Or.inr x)⟩ k)
    · rw [vd_7 k] at h0 g7
      rw [k]
      refine br_f (by decide) (br_f (by decide) (br_f (by decide) (br_f (by decide) (br_f (by decide) (br_f (by decide) (br_f (by decide) (br_f (by decide) (br_t rfl (pk_eq m 2 (fun e5 => ?_) (fun e5 => h0 (fun z => e5 z.1)))))))))))
      rw [ha (by omega)]
      refine pk_le (v 1) 0 (fun g => h0 (fun z => ?_)) (fun g => yk_may hs hb hb4 hv1 (fun w => br_f (by decide) ?_) (fun w => br_t rfl (h0 (fun z => w (Or.inr z.2)))))
      · rcases z.2 with x | x <;> omega
      · have w' : bk_Beg b (v 1) := by
          rcases w with w | w
          · omega
          · exact w
        exact br_t rfl (g7 ⟨e5, w'⟩ k)
    · rw [vd_8 k] at h0 g8
      rw [k]
      refine br_f (by decide) (br_f (by decide) (br_f (by decide) (br_f (by decide) (br_f (by decide) (br_f (by decide) (br_f (by decide) (br_f (by decide) (br_f (by decide) (br_t rfl (pk_eq m 2 (fun e5 => ?_) (fun e5 => h0 (fun z => e5 z.1))))))))))))
      rw [ha (by omega)]
      refine pk_le (v 1) 0 (fun g => h0 (fun z => ?_)) (fun g => yk_may hs hb hb4 hv1 (fun w => br_f (by decide) ?_) (fun w => br_t rfl (h0 (fun z => w (Or.inr z.2)))))
      · rcases z.2 with x | x <;> omega
      · have w' : bk_Beg b (v 1) := by
          rcases w with w | w
          · omega
          · exact w
        exact br_f (by decide) (g8 ⟨e5, w'⟩ k)
    · rw [vd_9 k] at h0 g9
      rw [k]
      exact br_f (by decide) (br_f (by decide) (br_f (by decide) (br_f (by decide) (br_f (by decide) (br_f (by decide) (br_f (by decide) (br_f (by decide) (br_f (by decide) (br_f (by decide) (br_t rfl (pk_eq m 2 (fun e5 => g9 e5 k) (fun e5 => br_f (fun z => e5 ((nI_eq (a := m) (b := 2) (by omega) (by omega)).mp z)) (h0 (fun z => e5 z))))))))))))))
  refine nm_r (hwo 0 (by omega)) ?_
  refine pk_le m 1 (fun g => ?_) (fun g => ?_)
  · refine pk_le m 2 (fun g' => key _ _ (fun z => by omega) (fun z => by omega)) (fun g' => by omega)
  · rw [hwo 1 (by omega)]
    refine pk_le m 2 (fun g' => key _ _ (fun _ => rfl) (fun z => by omega)) (fun g' => ?_)
    rw [hwo 2 (by omega)]
    exact key _ _ (fun _ => rfl) (fun _ => rfl)
end YCMD
end
section
/-! what is written besides -/
section WRITE
variable {B : Nat} {A : Nat → List bk_E} {g : Nat → Nat} {st lf cd bg gv ob ol pb pn xp fh fl fa mk cb mi mb ml pa kb kl kc th pl md cr hc hg hi ib il it qi qc gc lc lr co ta yp ki le go la ps pd pt kw kh kf kz ky wh od tg tr so bd wo be : Nat → Int32} {px fr en ma wr : Int32}
theorem yk_w36 {post : SY → Prop} {s a n : Nat} (hs : s < 4) (ha : a + n ≤ 240) (hn : n ≤ 200) (hp : post (fr, en, ma, wr, st, lf, cd, ta, bg, kc, bk_wf ob s a wo n, upd ol s (nI (a + n)), pb, pn, yp, ki, le, go, mk, cb, mb, ml, la, ps, pd, pt, kw, kh, kf, kz, ky, th, pl, md, cr, gc, lc, lr, wh, od, tg, tr, so, bd, wo, be)) :
    ∀ f k : Nat, k ≤ n → n - k < f → wY_write_36 post (nI s) (nI n) f (nI k) fr en ma wr st lf cd ta bg kc (bk_wf ob s a wo k) (upd ol s (nI (a + k))) pb pn yp ki le go mk cb mb ml la ps pd pt kw kh kf kz ky th pl md cr gc lc lr wh od tg tr so bd wo be
  | 0, k, h1, h2 => by omega
  | f + 1, k, h1, h2 => by
    have ck : (nI k).toNatClampNeg = k := nI_clamp (by omega)
    refine pk_le n k (fun g => ?_) (fun g => ?_)
    · have : k = n := by omega
      subst this
      exact hp
    · rw [ck]
      refine ⟨pk_in k 201 (by omega), yk_put hs pk_us (by omega) (nm_r (nI_1 k) ?_)⟩
      rw [bk_uu]
      exact yk_w36 hs ha hn hp f (k + 1) (by omega) (by omega)
theorem yk_write {post : SY → Prop} {s a n : Nat} {k : Int32} (hs : s < 4) (ha : ol s = nI a) (ha2 : a ≤ 240) (hn : n ≤ 200)
    (h1 : a + 2 + n ≤ 240 → post (fr, en, ma, wr, st, lf, cd, ta, bg, kc, bk_wf (upd (upd ob (240 * s + a) (128 + k)) (240 * s + (a + 1)) (nI n)) s (a + 2) wo n, upd ol s (nI (a + 2 + n)), pb, pn, yp, ki, le, go, mk, cb, mb, ml, la, ps, pd, pt, kw, kh, kf, kz, ky, th, pl, md, cr, gc, lc, lr, wh, od, tg, tr, so, bd, wo, be)) (h0 : 240 < a + 2 + n → post (fr, en, ma, wr, st, lf, cd, ta, bg, kc, ob, ol, pb, pn, yp, ki, le, go, mk, cb, mb, ml, la, ps, pd, pt, kw, kh, kf, kz, ky, th, pl, md, cr, gc, lc, lr, wh, od, tg, tr, so, bd, wo, be)) : wpY_write post (fr, en, ma, wr, st, lf, cd, ta, bg, kc, ob, ol, pb, pn, yp, ki, le, go, mk, cb, mb, ml, la, ps, pd, pt, kw, kh, kf, kz, ky, th, pl, md, cr, gc, lc, lr, wh, od, tg, tr, so, bd, wo, be) (nI s) k (nI n) := by
  have cs : (nI s).toNatClampNeg = s := nI_clamp (by omega)
  have e1 : nI a + nI n + 2 = nI (a + n + 2) := by rw [nI_add, bn_add]
  refine ⟨pk_in s 4 hs, ?_⟩
  rw [cs, ha, e1]
  refine pk_le (a + n + 2) 240 (fun g => ?_) (fun g => h0 (by omega))
  refine yk_put hs ha (by omega) (yk_put hs pk_us (by omega) ⟨n + 1, ?_⟩)
  rw [bk_uu]
  have w := yk_w36 (post := post) (s := s) (a := a + 2) (n := n) (ob := upd (upd ob (240 * s + a) (128 + k)) (240 * s + (a + 1)) (nI n)) (ol := upd ol s (nI (a + 2))) hs (by omega) hn (by rw [bk_uu]; exact h1 (by omega)) (n + 1) 0 (by omega) (by omega)
  rw [bk_uu] at w
  exact w
theorem xk_echo {post : SX → Prop} {s a : Nat} (hs : s < 4) (ha : ol s = nI a) (ha2 : a ≤ 240)
    (h1 : a + 2 + 2 ≤ 240 → post (px, st, lf, cd, bg, gv, upd (upd (upd (upd ob (240 * s + a) (128 + 1)) (240 * s + (a + 1)) 2) (240 * s + (a + 2)) 9) (240 * s + (a + 3)) (pa 1), upd ol s (nI (a + 4)), pb, pn, xp, fh, fl, fa, mk, cb, mi, mb, ml, pa, kb, kl, kc, th, pl, md, cr, hc, hg, hi, ib, il, it, qi, qc, gc, lc, lr, co)) (h0 : 240 < a + 2 + 2 → post (px, st, lf, cd, bg, gv, ob, ol, pb, pn, xp, fh, fl, fa, mk, cb, mi, mb, ml, pa, kb, kl, kc, th, pl, md, cr, hc, hg, hi, ib, il, it, qi, qc, gc, lc, lr, co)) : wpX_echo post (px, st, lf, cd, bg, gv, ob, ol, pb, pn, xp, fh, fl, fa, mk, cb, mi, mb, ml, pa, kb, kl, kc, th, pl, md, cr, hc, hg, hi, ib, il, it, qi, qc, gc, lc, lr, co) (nI s) := by
  unfold wpX_echo
  refine xk_hasRoom (n := 2) hs ha ha2 (by omega) (fun g => br_f (by decide) ?_) (fun g => br_t rfl (h0 g))
  refine xk_startFrame hs ha (by omega) (xk_put hs pk_us (by omega) (xk_put hs pk_us (by omega) ?_))
  rw [bk_uu, bk_uu]
  exact h1 g
/-- what is kept for others is passed over -/
theorem xk_skip {post : SX → Prop} {s c : Nat} {x z : Int32} (hs : s < 4) (hc7 : c ≤ 7) (hz : ∀ j, j < c → ¬ z ≤ nI j) (hx : ∀ j, j < c → kb ((s * 7 + j) * 19 + 2) ≠ x) {f : Nat} (hp : wX_doKept_10 post (nI s) x z f (nI c) px st lf cd bg gv ob ol pb pn xp fh fl fa mk cb mi mb ml pa kb kl kc th pl md cr hc hg hi ib il it qi qc gc lc lr co) :
    ∀ i, i ≤ c → wX_doKept_10 post (nI s) x z (f + i) (nI (c - i)) px st lf cd bg gv ob ol pb pn xp fh fl fa mk cb mi mb ml pa kb kl kc th pl md cr hc hg hi ib il it qi qc gc lc lr co
  | 0, _ => hp
  | i + 1, hi' => by
    have ih := xk_skip hs hc7 hz hx hp i (by omega)
    have ei : c - i = c - (i + 1) + 1 := by omega
    rw [ei] at ih
    generalize hi0 : c - (i + 1) = j at *
    have hj : j < c := by omega
    have e1 : nI s * 7 + nI j = nI (s * 7 + j) := by rw [bn_mul, nI_add]
    have e2 : nI (s * 7 + j) * 19 = nI ((s * 7 + j) * 19) := bn_mul _ 19
    have e3 : nI ((s * 7 + j) * 19) + 2 = nI ((s * 7 + j) * 19 + 2) := bn_add _ 2
    have c2 : (nI ((s * 7 + j) * 19 + 2)).toNatClampNeg = (s * 7 + j) * 19 + 2 := nI_clamp (by omega)
    refine br_f (hz j hj) (nm_r e1 (nm_r e2 ?_))
    rw [e3, c2]
    exact ⟨vp_in_nI (by omega) (by omega), br_f (hx j hj) (nm_r (nI_1 j) ih)⟩
theorem xk_skip0 {post : SX → Prop} {s c : Nat} {x z : Int32} (hs : s < 4) (hc7 : c ≤ 7) (hz : ∀ j, j < c → ¬ z ≤ nI j) (hx : ∀ j, j < c → kb ((s * 7 + j) * 19 + 2) ≠ x) {f : Nat} (hp : wX_doKept_10 post (nI s) x z f (nI c) px st lf cd bg gv ob ol pb pn xp fh fl fa mk cb mi mb ml pa kb kl kc th pl md cr hc hg hi ib il it qi qc gc lc lr co) : wX_doKept_10 post (nI s) x z (f + c) 0 px st lf cd bg gv ob ol pb pn xp fh fl fa mk cb mi mb ml pa kb kl kc th pl md cr hc hg hi ib il it qi qc gc lc lr co := by
  have w := xk_skip hs hc7 hz hx hp c (Nat.le_refl _)
  rw [Nat.sub_self] at w
  exact w
end WRITE
end
section
/-! commands, done on both sides -/
section CMD
variable {st pl md cr : Nat → Int32}
theorem lk_cmd1 {B : Nat} {A : Nat → List bk_E} {g : Nat → Nat} {ob : Nat → Int32} {ol : Nat → Int32} {gc : Nat → Int32} {lc : Nat → Int32} {lr : Nat → Int32} {gv : Nat → Int32} {th : Nat → Int32} {hc : Nat → Int32} {hg : Nat → Int32} {hi : Nat → Int32} {ib : Nat → Int32} {il : Nat → Int32} {it : Nat → Int32} {qi : Nat → Int32} {qc : Nat → Int32} {ta : Nat → Int32} {wh : Nat → Int32} {od : Nat → Int32} {tg : Nat → Int32} {tr : Nat → Int32} {so : Nat → Int32} {bd : Nat → Int32} {fr : Int32} {en : Int32} {bg kb kl kc kw kh kf kz ky : Nat → Int32} (h : bk_C B A g st ol th pl md cr lr gv ib il it qi qc ta wh od tg tr so bd fr en) (rh : bk_RH A hi hg hc) (K : ∀ z, z < 4 → bk_K kc kb kl kw kh kf kz ky z) (hbg : ∀ z, z < 4 → ∃ b, b < 4 ∧ bg z = nI b) (hB : B + 112 ≤ 100000000) {s m b c : Nat} {v : Nat → Nat} (hs : s < 4) (hm1 : 1 ≤ m) (hm : m ≤ 200) (hv : ∀ j, v j < 256) (hb : bg s = nI b) (hb4 : b < 4) (hc' : kc s = nI c) (hc6 : c ≤ 6) (valid : bk_Vd th s m b c v) (k : v 0 = 1) :
    ∃ (d : bk_DT) (pl' md' cr' bg' kb' kl' kc' kw' kh' kf' kz' ky' : Nat → Int32), bk_C (B + 112) (zz_A d) (zz_g d) st (zz_ol d) (zz_th d) pl' md' cr' (zz_lr d) (zz_gv d) (zz_ib d) (zz_il d) (zz_it d) (zz_qi d) (zz_qc d) (zz_ta d) (zz_wh d) (zz_od d) (zz_tg d) (zz_tr d) (zz_so d) (zz_bd d) (zz_fr d) (zz_en d) ∧ bk_RH (zz_A d) (zz_hi d) (zz_hg d) (zz_hc d) ∧ (∀ z, z < 4 → bk_K kc' kb' kl' kw' kh' kf' kz' ky' z) ∧ (∀ z, z < 4 → ∃ b, b < 4 ∧ bg' z = nI b) ∧ (∀ r, r / 4 ≠ s → zz_th d r = th r) ∧
      (∀ {lf cd pb pn xp fh fl fa mk cb mi mb ml co : Nat → Int32} (pa : Nat → Int32) (post : SX → Prop), (∀ j, j < m → pa j = nI (v j)) → post (nI m, st, lf, cd, bg', zz_gv d, zz_ob d, zz_ol d, pb, pn, xp, fh, fl, fa, mk, cb, mi, mb, ml, pa, kb', kl', kc', zz_th d, pl', md', cr', zz_hc d, zz_hg d, zz_hi d, zz_ib d, zz_il d, zz_it d, zz_qi d, zz_qc d, zz_gc d, zz_lc d, zz_lr d, co) → wpX_doCommand post (nI m, st, lf, cd, bg, gv, ob, ol, pb, pn, xp, fh, fl, fa, mk, cb, mi, mb, ml, pa, kb, kl, kc, th, pl, md, cr, hc, hg, hi, ib, il, it, qi, qc, gc, lc, lr, co) (nI s)) ∧
      (∀ {lf cd pb pn yp ki le go mk cb mb ml la ps pd pt wo be : Nat → Int32} {wr : Int32}, (∀ j, j < m → wo j = nI (v j)) → ∃ wo' : Nat → Int32, ∀ (post : Int32 → SY → Prop), post 1 (zz_fr d, zz_en d, nI m, wr, st, lf, cd, zz_ta d, bg', kc', zz_ob d, zz_ol d, pb, pn, yp, ki, le, go, mk, cb, mb, ml, la, ps, pd, pt, kw', kh', kf', kz', ky', zz_th d, pl', md', cr', zz_gc d, zz_lc d, zz_lr d, zz_wh d, zz_od d, zz_tg d, zz_tr d, zz_so d, zz_bd d, wo', be) → wpY_command post (fr, en, nI m, wr, st, lf, cd, ta, bg, kc, ob, ol, pb, pn, yp, ki, le, go, mk, cb, mb, ml, la, ps, pd, pt, kw, kh, kf, kz, ky, th, pl, md, cr, gc, lc, lr, wh, od, tg, tr, so, bd, wo, be) (nI s)) := by
  have cs : (nI s).toNatClampNeg = s := nI_clamp (by omega)
  have hv0 := hv 0
  have hv1 := hv 1
  have hv2 := hv 2
  have hv3 := hv 3
  have hv4 := hv 4
  obtain ⟨e5, q1, q2, q3, q4, q5, q6⟩ := (vd_1 k).mp valid
  have hr : 4 * s + v 1 < 16 := by omega
  have hA : A (3 + (4 * s + v 1)) = [] := by
    rcases h.2.2.1 _ hr with ⟨_, z⟩ | ⟨z, _⟩
    · exact z
    · rw [q2] at z; exact absurd z (by decide)
  have hh := (rh _ hr).1
  rw [hA] at hh
  have he : upd hc (4 * s + v 1) 0 = hc := bk_uid hc _ 0 hh
  have cr' : (nI (4 * s + v 1)).toNatClampNeg = 4 * s + v 1 := nI_clamp (by omega)
  have e1 : nI s * 4 + nI (v 1) = nI (4 * s + v 1) := by rw [bn_mul, nI_add, Nat.mul_comm]
  have i16 : vp_in (nI (4 * s + v 1)) 16 := vp_in_nI (by omega) (by omega)
  refine ⟨(A, g, ob, ol, gc, lc, lr, gv, upd th (4 * s + v 1) 1, hc, hg, hi, ib, il, it, qi, qc, ta, wh, od, tg, tr, so, bd, fr, en), upd pl (4 * s + v 1) (nI (v 2)), upd md (4 * s + v 1) (nI (v 3)), upd cr (4 * s + v 1) (nI (v 4)), bg, kb, kl, kc, kw, kh, kf, kz, ky, dk_mono (dk_sub h hA q3 q4 q5 q6) (by omega), rh, K, hbg, fun r hr' => pk_un (by omega), ?_, ?_⟩
  · intro lf cd pb pn xp fh fl fa mk cb mi mb ml co pa post hpa hp
    refine nm_r (hpa 1 (by omega)) (nm_r (by rw [hpa 0 (by omega), k]) ?_)
    refine br_f (by decide) (br_f (by decide) (br_t rfl (?_)))
    rw [hpa 1 (by omega), e1]
    unfold wpX_subscribe
    dsimp only
    rw [cr', hpa 2 (by omega), hpa 3 (by omega), hpa 4 (by omega), bn_b1, he]
    exact ⟨i16, nm_e ⟨i16, nm_e ⟨i16, nm_e ⟨i16, nm_e ⟨i16, nm_e hp⟩⟩⟩⟩⟩
  · intro lf cd pb pn yp ki le go mk cb mb ml la ps pd pt wo be wr hwo
    exact ⟨wo, fun post hp => yk_command hs hm1 hm hv hwo hb hb4 hc' hc6 (fun z => absurd valid z) (fun _ _ => hp) (fun _ z => by omega) (fun _ z => by omega) (fun _ z => by omega) (fun _ z => by omega) (fun _ z => by omega) (fun _ z => by omega) (fun _ z => by omega)⟩
theorem lk_cmd2 {B : Nat} {A : Nat → List bk_E} {g : Nat → Nat} {ob : Nat → Int32} {ol : Nat → Int32} {gc : Nat → Int32} {lc : Nat → Int32} {lr : Nat → Int32} {gv : Nat → Int32} {th : Nat → Int32} {hc : Nat → Int32} {hg : Nat → Int32} {hi : Nat → Int32} {ib : Nat → Int32} {il : Nat → Int32} {it : Nat → Int32} {qi : Nat → Int32} {qc : Nat → Int32} {ta : Nat → Int32} {wh : Nat → Int32} {od : Nat → Int32} {tg : Nat → Int32} {tr : Nat → Int32} {so : Nat → Int32} {bd : Nat → Int32} {fr : Int32} {en : Int32} {bg kb kl kc kw kh kf kz ky : Nat → Int32} (h : bk_C B A g st ol th pl md cr lr gv ib il it qi qc ta wh od tg tr so bd fr en) (rh : bk_RH A hi hg hc) (K : ∀ z, z < 4 → bk_K kc kb kl kw kh kf kz ky z) (hbg : ∀ z, z < 4 → ∃ b, b < 4 ∧ bg z = nI b) (hB : B + 112 ≤ 100000000) {s m b c : Nat} {v : Nat → Nat} (hs : s < 4) (hm1 : 1 ≤ m) (hm : m ≤ 200) (hv : ∀ j, v j < 256) (hb : bg s = nI b) (hb4 : b < 4) (hc' : kc s = nI c) (hc6 : c ≤ 6) (valid : bk_Vd th s m b c v) (k : v 0 = 2) :
    ∃ (d : bk_DT) (pl' md' cr' bg' kb' kl' kc' kw' kh' kf' kz' ky' : Nat → Int32), bk_C (B + 112) (zz_A d) (zz_g d) st (zz_ol d) (zz_th d) pl' md' cr' (zz_lr d) (zz_gv d) (zz_ib d) (zz_il d) (zz_it d) (zz_qi d) (zz_qc d) (zz_ta d) (zz_wh d) (zz_od d) (zz_tg d) (zz_tr d) (zz_so d) (zz_bd d) (zz_fr d) (zz_en d) ∧ bk_RH (zz_A d) (zz_hi d) (zz_hg d) (zz_hc d) ∧ (∀ z, z < 4 → bk_K kc' kb' kl' kw' kh' kf' kz' ky' z) ∧ (∀ z, z < 4 → ∃ b, b < 4 ∧ bg' z = nI b) ∧ (∀ r, r / 4 ≠ s → zz_th d r = th r) ∧
      (∀ {lf cd pb pn xp fh fl fa mk cb mi mb ml co : Nat → Int32} (pa : Nat → Int32) (post : SX → Prop), (∀ j, j < m → pa j = nI (v j)) → post (nI m, st, lf, cd, bg', zz_gv d, zz_ob d, zz_ol d, pb, pn, xp, fh, fl, fa, mk, cb, mi, mb, ml, pa, kb', kl', kc', zz_th d, pl', md', cr', zz_hc d, zz_hg d, zz_hi d, zz_ib d, zz_il d, zz_it d, zz_qi d, zz_qc d, zz_gc d, zz_lc d, zz_lr d, co) → wpX_doCommand post (nI m, st, lf, cd, bg, gv, ob, ol, pb, pn, xp, fh, fl, fa, mk, cb, mi, mb, ml, pa, kb, kl, kc, th, pl, md, cr, hc, hg, hi, ib, il, it, qi, qc, gc, lc, lr, co) (nI s)) ∧
      (∀ {lf cd pb pn yp ki le go mk cb mb ml la ps pd pt wo be : Nat → Int32} {wr : Int32}, (∀ j, j < m → wo j = nI (v j)) → ∃ wo' : Nat → Int32, ∀ (post : Int32 → SY → Prop), post 1 (zz_fr d, zz_en d, nI m, wr, st, lf, cd, zz_ta d, bg', kc', zz_ob d, zz_ol d, pb, pn, yp, ki, le, go, mk, cb, mb, ml, la, ps, pd, pt, kw', kh', kf', kz', ky', zz_th d, pl', md', cr', zz_gc d, zz_lc d, zz_lr d, zz_wh d, zz_od d, zz_tg d, zz_tr d, zz_so d, zz_bd d, wo', be) → wpY_command post (fr, en, nI m, wr, st, lf, cd, ta, bg, kc, ob, ol, pb, pn, yp, ki, le, go, mk, cb, mb, ml, la, ps, pd, pt, kw, kh, kf, kz, ky, th, pl, md, cr, gc, lc, lr, wh, od, tg, tr, so, bd, wo, be) (nI s)) := by
  have cs : (nI s).toNatClampNeg = s := nI_clamp (by omega)
  have hv0 := hv 0
  have hv1 := hv 1
  have hv2 := hv 2
  have hv3 := hv 3
  have hv4 := hv 4
  obtain ⟨e5, q1, q2⟩ := (vd_2 k).mp valid
  have hr : 4 * s + v 1 < 16 := by omega
  have e1 : nI s * 4 + nI (v 1) = nI (4 * s + v 1) := by rw [bn_mul, nI_add, Nat.mul_comm]
  obtain ⟨d, h1, r1, t1, _, x1, y1⟩ := lk_end1 (ob := ob) (gc := gc) (lc := lc) h rh (by omega) hr
  refine ⟨d, pl, md, cr, bg, kb, kl, kc, kw, kh, kf, kz, ky, dk_mono h1 (by omega), r1, K, hbg, fun r hr' => by rw [t1]; exact pk_un (by omega), ?_, ?_⟩
  · intro lf cd pb pn xp fh fl fa mk cb mi mb ml co pa post hpa hp
    refine nm_r (hpa 1 (by omega)) (nm_r (by rw [hpa 0 (by omega), k]) ?_)
    refine br_f (by decide) (br_f (by decide) (br_f (by decide) (br_t rfl (?_))))
    rw [hpa 1 (by omega), e1]
    exact x1 _ hp
  · intro lf cd pb pn yp ki le go mk cb mb ml la ps pd pt wo be wr hwo
    exact ⟨wo, fun post hp => yk_command hs hm1 hm hv hwo hb hb4 hc' hc6 (fun z => absurd valid z) (fun _ z => by omega) (fun _ _ => y1 q2 _ hp) (fun _ z => by omega) (fun _ z => by omega) (fun _ z => by omega) (fun _ z => by omega) (fun _ z => by omega) (fun _ z => by omega)⟩
theorem lk_cmd6 {B : Nat} {A : Nat → List bk_E} {g : Nat → Nat} {ob : Nat → Int32} {ol : Nat → Int32} {gc : Nat → Int32} {lc : Nat → Int32} {lr : Nat → Int32} {gv : Nat → Int32} {th : Nat → Int32} {hc : Nat → Int32} {hg : Nat → Int32} {hi : Nat → Int32} {ib : Nat → Int32} {il : Nat → Int32} {it : Nat → Int32} {qi : Nat → Int32} {qc : Nat → Int32} {ta : Nat → Int32} {wh : Nat → Int32} {od : Nat → Int32} {tg : Nat → Int32} {tr : Nat → Int32} {so : Nat → Int32} {bd : Nat → Int32} {fr : Int32} {en : Int32} {bg kb kl kc kw kh kf kz ky : Nat → Int32} (h : bk_C B A g st ol th pl md cr lr gv ib il it qi qc ta wh od tg tr so bd fr en) (rh : bk_RH A hi hg hc) (K : ∀ z, z < 4 → bk_K kc kb kl kw kh kf kz ky z) (hbg : ∀ z, z < 4 → ∃ b, b < 4 ∧ bg z = nI b) (hB : B + 112 ≤ 100000000) {s m b c : Nat} {v : Nat → Nat} (hs : s < 4) (hm1 : 1 ≤ m) (hm : m ≤ 200) (hv : ∀ j, v j < 256) (hb : bg s = nI b) (hb4 : b < 4) (hc' : kc s = nI c) (hc6 : c ≤ 6) (valid : bk_Vd th s m b c v) (k : v 0 = 6) :
    ∃ (d : bk_DT) (pl' md' cr' bg' kb' kl' kc' kw' kh' kf' kz' ky' : Nat → Int32), bk_C (B + 112) (zz_A d) (zz_g d) st (zz_ol d) (zz_th d) pl' md' cr' (zz_lr d) (zz_gv d) (zz_ib d) (zz_il d) (zz_it d) (zz_qi d) (zz_qc d) (zz_ta d) (zz_wh d) (zz_od d) (zz_tg d) (zz_tr d) (zz_so d) (zz_bd d) (zz_fr d) (zz_en d) ∧ bk_RH (zz_A d) (zz_hi d) (zz_hg d) (zz_hc d) ∧ (∀ z, z < 4 → bk_K kc' kb' kl' kw' kh' kf' kz' ky' z) ∧ (∀ z, z < 4 → ∃ b, b < 4 ∧ bg' z = nI b) ∧ (∀ r, r / 4 ≠ s → zz_th d r = th r) ∧
      (∀ {lf cd pb pn xp fh fl fa mk cb mi mb ml co : Nat → Int32} (pa : Nat → Int32) (post : SX → Prop), (∀ j, j < m → pa j = nI (v j)) → post (nI m, st, lf, cd, bg', zz_gv d, zz_ob d, zz_ol d, pb, pn, xp, fh, fl, fa, mk, cb, mi, mb, ml, pa, kb', kl', kc', zz_th d, pl', md', cr', zz_hc d, zz_hg d, zz_hi d, zz_ib d, zz_il d, zz_it d, zz_qi d, zz_qc d, zz_gc d, zz_lc d, zz_lr d, co) → wpX_doCommand post (nI m, st, lf, cd, bg, gv, ob, ol, pb, pn, xp, fh, fl, fa, mk, cb, mi, mb, ml, pa, kb, kl, kc, th, pl, md, cr, hc, hg, hi, ib, il, it, qi, qc, gc, lc, lr, co) (nI s)) ∧
      (∀ {lf cd pb pn yp ki le go mk cb mb ml la ps pd pt wo be : Nat → Int32} {wr : Int32}, (∀ j, j < m → wo j = nI (v j)) → ∃ wo' : Nat → Int32, ∀ (post : Int32 → SY → Prop), post 1 (zz_fr d, zz_en d, nI m, wr, st, lf, cd, zz_ta d, bg', kc', zz_ob d, zz_ol d, pb, pn, yp, ki, le, go, mk, cb, mb, ml, la, ps, pd, pt, kw', kh', kf', kz', ky', zz_th d, pl', md', cr', zz_gc d, zz_lc d, zz_lr d, zz_wh d, zz_od d, zz_tg d, zz_tr d, zz_so d, zz_bd d, wo', be) → wpY_command post (fr, en, nI m, wr, st, lf, cd, ta, bg, kc, ob, ol, pb, pn, yp, ki, le, go, mk, cb, mb, ml, la, ps, pd, pt, kw, kh, kf, kz, ky, th, pl, md, cr, gc, lc, lr, wh, od, tg, tr, so, bd, wo, be) (nI s)) := by
  have cs : (nI s).toNatClampNeg = s := nI_clamp (by omega)
  have hv0 := hv 0
  have hv1 := hv 1
  have hv2 := hv 2
  have hv3 := hv 3
  have hv4 := hv 4
  obtain ⟨e5, q1, q2⟩ := (vd_6 k).mp valid
  obtain ⟨b', hb', eb⟩ := bk_bor b hb4 (v 1) (by omega)
  refine ⟨(A, g, ob, ol, gc, lc, lr, gv, th, hc, hg, hi, ib, il, it, qi, qc, ta, wh, od, tg, tr, so, bd, fr, en), pl, md, cr, upd bg s (bg s ||| nI (v 1)), kb, kl, kc, kw, kh, kf, kz, ky, dk_mono h (by omega), rh, K, ?_, fun _ _ => rfl, ?_, ?_⟩
  · intro z hz
    by_cases e : z = s
    · subst e
      exact ⟨b', hb', by rw [pk_us, hb]; exact eb⟩
    · rw [pk_un e]; exact hbg z hz
  · intro lf cd pb pn xp fh fl fa mk cb mi mb ml co pa post hpa hp
    refine nm_r (hpa 1 (by omega)) (nm_r (by rw [hpa 0 (by omega), k]) ?_)
    refine br_f (by decide) (br_f (by decide) (br_f (by decide) (br_f (by decide) (br_f (by decide) (br_f (by decide) (br_f (by decide) (br_t rfl (⟨pk_in s 4 hs, pk_in s 4 hs, ?_⟩))))))))
    rw [cs]
    exact nm_e hp
  · intro lf cd pb pn yp ki le go mk cb mb ml la ps pd pt wo be wr hwo
    exact ⟨wo, fun post hp => yk_command hs hm1 hm hv hwo hb hb4 hc' hc6 (fun z => absurd valid z) (fun _ z => by omega) (fun _ z => by omega) (fun _ z => by omega) (fun _ z => by omega) (fun _ _ => hp) (fun _ z => by omega) (fun _ z => by omega) (fun _ z => by omega)⟩
theorem lk_cmd9 {B : Nat} {A : Nat → List bk_E} {g : Nat → Nat} {ob : Nat → Int32} {ol : Nat → Int32} {gc : Nat → Int32} {lc : Nat → Int32} {lr : Nat → Int32} {gv : Nat → Int32} {th : Nat → Int32} {hc : Nat → Int32} {hg : Nat → Int32} {hi : Nat → Int32} {ib : Nat → Int32} {il : Nat → Int32} {it : Nat → Int32} {qi : Nat → Int32} {qc : Nat → Int32} {ta : Nat → Int32} {wh : Nat → Int32} {od : Nat → Int32} {tg : Nat → Int32} {tr : Nat → Int32} {so : Nat → Int32} {bd : Nat → Int32} {fr : Int32} {en : Int32} {bg kb kl kc kw kh kf kz ky : Nat → Int32} (h : bk_C B A g st ol th pl md cr lr gv ib il it qi qc ta wh od tg tr so bd fr en) (rh : bk_RH A hi hg hc) (K : ∀ z, z < 4 → bk_K kc kb kl kw kh kf kz ky z) (hbg : ∀ z, z < 4 → ∃ b, b < 4 ∧ bg z = nI b) (hB : B + 112 ≤ 100000000) {s m b c : Nat} {v : Nat → Nat} (hs : s < 4) (hm1 : 1 ≤ m) (hm : m ≤ 200) (hv : ∀ j, v j < 256) (hb : bg s = nI b) (hb4 : b < 4) (hc' : kc s = nI c) (hc6 : c ≤ 6) (valid : bk_Vd th s m b c v) (k : v 0 = 9) :
    ∃ (d : bk_DT) (pl' md' cr' bg' kb' kl' kc' kw' kh' kf' kz' ky' : Nat → Int32), bk_C (B + 112) (zz_A d) (zz_g d) st (zz_ol d) (zz_th d) pl' md' cr' (zz_lr d) (zz_gv d) (zz_ib d) (zz_il d) (zz_it d) (zz_qi d) (zz_qc d) (zz_ta d) (zz_wh d) (zz_od d) (zz_tg d) (zz_tr d) (zz_so d) (zz_bd d) (zz_fr d) (zz_en d) ∧ bk_RH (zz_A d) (zz_hi d) (zz_hg d) (zz_hc d) ∧ (∀ z, z < 4 → bk_K kc' kb' kl' kw' kh' kf' kz' ky' z) ∧ (∀ z, z < 4 → ∃ b, b < 4 ∧ bg' z = nI b) ∧ (∀ r, r / 4 ≠ s → zz_th d r = th r) ∧
      (∀ {lf cd pb pn xp fh fl fa mk cb mi mb ml co : Nat → Int32} (pa : Nat → Int32) (post : SX → Prop), (∀ j, j < m → pa j = nI (v j)) → post (nI m, st, lf, cd, bg', zz_gv d, zz_ob d, zz_ol d, pb, pn, xp, fh, fl, fa, mk, cb, mi, mb, ml, pa, kb', kl', kc', zz_th d, pl', md', cr', zz_hc d, zz_hg d, zz_hi d, zz_ib d, zz_il d, zz_it d, zz_qi d, zz_qc d, zz_gc d, zz_lc d, zz_lr d, co) → wpX_doCommand post (nI m, st, lf, cd, bg, gv, ob, ol, pb, pn, xp, fh, fl, fa, mk, cb, mi, mb, ml, pa, kb, kl, kc, th, pl, md, cr, hc, hg, hi, ib, il, it, qi, qc, gc, lc, lr, co) (nI s)) ∧
      (∀ {lf cd pb pn yp ki le go mk cb mb ml la ps pd pt wo be : Nat → Int32} {wr : Int32}, (∀ j, j < m → wo j = nI (v j)) → ∃ wo' : Nat → Int32, ∀ (post : Int32 → SY → Prop), post 1 (zz_fr d, zz_en d, nI m, wr, st, lf, cd, zz_ta d, bg', kc', zz_ob d, zz_ol d, pb, pn, yp, ki, le, go, mk, cb, mb, ml, la, ps, pd, pt, kw', kh', kf', kz', ky', zz_th d, pl', md', cr', zz_gc d, zz_lc d, zz_lr d, zz_wh d, zz_od d, zz_tg d, zz_tr d, zz_so d, zz_bd d, wo', be) → wpY_command post (fr, en, nI m, wr, st, lf, cd, ta, bg, kc, ob, ol, pb, pn, yp, ki, le, go, mk, cb, mb, ml, la, ps, pd, pt, kw, kh, kf, kz, ky, th, pl, md, cr, gc, lc, lr, wh, od, tg, tr, so, bd, wo, be) (nI s)) := by
  have cs : (nI s).toNatClampNeg = s := nI_clamp (by omega)
  have hv0 := hv 0
  have hv1 := hv 1
  have hv2 := hv 2
  have hv3 := hv 3
  have hv4 := hv 4
  have e5 := (vd_9 k).mp valid
  subst e5
  obtain ⟨_, _, _, ⟨a, ha, ea⟩, _⟩ := h.2.2.2.1 s hs
  by_cases room : a + 2 + 2 ≤ 240
  · have w := dk_mono (dk_ol h (s := s) (a := a + 4) (by omega)) (B' := B + 112) (by omega)
    refine ⟨(A, g, upd (upd (upd (upd ob (240 * s + a) (128 + 1)) (240 * s + (a + 1)) 2) (240 * s + (a + 2)) 9) (240 * s + (a + 3)) (nI (v 1)), upd ol s (nI (a + 4)), gc, lc, lr, gv, th, hc, hg, hi, ib, il, it, qi, qc, ta, wh, od, tg, tr, so, bd, fr, en), pl, md, cr, bg, kb, kl, kc, kw, kh, kf, kz, ky, w, rh, K, hbg, fun _ _ => rfl, ?_, ?_⟩
    · intro lf cd pb pn xp fh fl fa mk cb mi mb ml co pa post hpa hp
      refine nm_r (hpa 1 (by omega)) (nm_r (by rw [hpa 0 (by omega), k]) ?_)
      refine br_f (by decide) (br_f (by decide) (br_f (by decide) (br_f (by decide) (br_f (by decide) (br_f (by decide) (br_f (by decide) (br_f (by decide) (br_f (by decide) (br_f (by decide) (br_t rfl (xk_echo hs ea ha (fun _ => ?_) (fun z => by omega))))))))))))
      rw [hpa 1 (by omega)]
      exact hp
    · intro lf cd pb pn yp ki le go mk cb mb ml la ps pd pt wo be wr hwo
      refine ⟨wo, fun post hp => yk_command hs hm1 hm hv hwo hb hb4 hc' hc6 (fun z => absurd valid z) (fun _ z => by omega) (fun _ z => by omega) (fun _ z => by omega) (fun _ z => by omega) (fun _ z => by omega) (fun _ z => by omega) (fun _ z => by omega) (fun _ _ => yk_write (n := 2) hs ea ha (by omega) (fun _ => ?_) (fun z => by omega))⟩
      unfold bk_wf bk_wf bk_wf
      rw [hwo 0 (by omega), hwo 1 (by omega), k]
      exact br_t rfl hp
  · refine ⟨(A, g, ob, ol, gc, lc, lr, gv, th, hc, hg, hi, ib, il, it, qi, qc, ta, wh, od, tg, tr, so, bd, fr, en), pl, md, cr, bg, kb, kl, kc, kw, kh, kf, kz, ky, dk_mono h (by omega), rh, K, hbg, fun _ _ => rfl, ?_, ?_⟩
    · intro lf cd pb pn xp fh fl fa mk cb mi mb ml co pa post hpa hp
      refine nm_r (hpa 1 (by omega)) (nm_r (by rw [hpa 0 (by omega), k]) ?_)
      exact br_f (by decide) (br_f (by decide) (br_f (by decide) (br_f (by decide) (br_f (by decide) (br_f (by decide) (br_f (by decide) (br_f (by decide) (br_f (by decide) (br_f (by decide) (br_t rfl (xk_echo hs ea ha (fun z => by omega) (fun _ => hp))))))))))))
    · intro lf cd pb pn yp ki le go mk cb mb ml la ps pd pt wo be wr hwo
      exact ⟨wo, fun post hp => yk_command hs hm1 hm hv hwo hb hb4 hc' hc6 (fun z => absurd valid z) (fun _ z => by omega) (fun _ z => by omega) (fun _ z => by omega) (fun _ z => by omega) (fun _ z => by omega) (fun _ z => by omega) (fun _ z => by omega) (fun _ _ => yk_write (n := 2) hs ea ha (by omega) (fun z => by omega) (fun _ => br_t rfl hp))⟩
end CMD
end
section
/-! commands 3, 4, 5, 7, 8 -/
section CMD2
variable {st pl md cr : Nat → Int32}
theorem lk_cmd3 {B : Nat} {A : Nat → List bk_E} {g : Nat → Nat} {ob : Nat → Int32} {ol : Nat → Int32} {gc : Nat → Int32} {lc : Nat → Int32} {lr : Nat → Int32} {gv : Nat → Int32} {th : Nat → Int32} {hc : Nat → Int32} {hg : Nat → Int32} {hi : Nat → Int32} {ib : Nat → Int32} {il : Nat → Int32} {it : Nat → Int32} {qi : Nat → Int32} {qc : Nat → Int32} {ta : Nat → Int32} {wh : Nat → Int32} {od : Nat → Int32} {tg : Nat → Int32} {tr : Nat → Int32} {so : Nat → Int32} {bd : Nat → Int32} {fr : Int32} {en : Int32} {bg kb kl kc kw kh kf kz ky : Nat → Int32} (h : bk_C B A g st ol th pl md cr lr gv ib il it qi qc ta wh od tg tr so bd fr en) (rh : bk_RH A hi hg hc) (K : ∀ z, z < 4 → bk_K kc kb kl kw kh kf kz ky z) (hbg : ∀ z, z < 4 → ∃ b, b < 4 ∧ bg z = nI b) (hB : B + 112 ≤ 100000000) {s m b c : Nat} {v : Nat → Nat} (hs : s < 4) (hm1 : 1 ≤ m) (hm : m ≤ 200) (hv : ∀ j, v j < 256) (hb : bg s = nI b) (hb4 : b < 4) (hc' : kc s = nI c) (hc6 : c ≤ 6) (valid : bk_Vd th s m b c v)
    (k3 : 3 ≤ m ∧ m ≤ 19 ∧ (v 2 = 0 ∨ (bk_Beg b (v 2) ∧ c < 6))) (kd : (v 0 = 3 ∧ v 1 < 6 ∧ 1 ≤ m - 3 ∧ m - 3 ≤ 16) ∨ ((v 0 = 4 ∨ v 0 = 5) ∧ v 1 < 256 ∧ m - 3 = 0)) :
    ∃ (d : bk_DT) (pl' md' cr' bg' kb' kl' kc' kw' kh' kf' kz' ky' : Nat → Int32), bk_C (B + 112) (zz_A d) (zz_g d) st (zz_ol d) (zz_th d) pl' md' cr' (zz_lr d) (zz_gv d) (zz_ib d) (zz_il d) (zz_it d) (zz_qi d) (zz_qc d) (zz_ta d) (zz_wh d) (zz_od d) (zz_tg d) (zz_tr d) (zz_so d) (zz_bd d) (zz_fr d) (zz_en d) ∧ bk_RH (zz_A d) (zz_hi d) (zz_hg d) (zz_hc d) ∧ (∀ z, z < 4 → bk_K kc' kb' kl' kw' kh' kf' kz' ky' z) ∧ (∀ z, z < 4 → ∃ b, b < 4 ∧ bg' z = nI b) ∧ (∀ r, r / 4 ≠ s → zz_th d r = th r) ∧
      (∀ {lf cd pb pn xp fh fl fa mk cb mi mb ml co : Nat → Int32} (pa : Nat → Int32) (post : SX → Prop), (∀ j, j < m → pa j = nI (v j)) → post (nI m, st, lf, cd, bg', zz_gv d, zz_ob d, zz_ol d, pb, pn, xp, fh, fl, fa, mk, cb, mi, mb, ml, pa, kb', kl', kc', zz_th d, pl', md', cr', zz_hc d, zz_hg d, zz_hi d, zz_ib d, zz_il d, zz_it d, zz_qi d, zz_qc d, zz_gc d, zz_lc d, zz_lr d, co) → wpX_doCommand post (nI m, st, lf, cd, bg, gv, ob, ol, pb, pn, xp, fh, fl, fa, mk, cb, mi, mb, ml, pa, kb, kl, kc, th, pl, md, cr, hc, hg, hi, ib, il, it, qi, qc, gc, lc, lr, co) (nI s)) ∧
      (∀ {lf cd pb pn yp ki le go mk cb mb ml la ps pd pt wo be : Nat → Int32} {wr : Int32}, (∀ j, j < m → wo j = nI (v j)) → ∃ wo' : Nat → Int32, ∀ (post : Int32 → SY → Prop), post 1 (zz_fr d, zz_en d, nI m, wr, st, lf, cd, zz_ta d, bg', kc', zz_ob d, zz_ol d, pb, pn, yp, ki, le, go, mk, cb, mb, ml, la, ps, pd, pt, kw', kh', kf', kz', ky', zz_th d, pl', md', cr', zz_gc d, zz_lc d, zz_lr d, zz_wh d, zz_od d, zz_tg d, zz_tr d, zz_so d, zz_bd d, wo', be) → wpY_command post (fr, en, nI m, wr, st, lf, cd, ta, bg, kc, ob, ol, pb, pn, yp, ki, le, go, mk, cb, mb, ml, la, ps, pd, pt, kw, kh, kf, kz, ky, th, pl, md, cr, gc, lc, lr, wh, od, tg, tr, so, bd, wo, be) (nI s)) := by
  have cs : (nI s).toNatClampNeg = s := nI_clamp (by omega)
  have hv0 := hv 0
  have hv1 := hv 1
  have hv2 := hv 2
  obtain ⟨c', _, ec, Ks⟩ := K s hs
  rw [hc'] at ec
  have ec : c = c' := (nI_eq (by omega) (by omega)).mp ec
  subst ec
  have kn : v 0 = 3 ∨ v 0 = 4 ∨ v 0 = 5 := by omega
  have em : m - 3 + 3 = m := by omega
  -- X's way to keep
  have road : ∀ {lf cd bg pb pn xp fh fl fa mk cb mi mb ml pa kb kl kc co : Nat → Int32} (post : SX → Prop), (∀ j, j < m → pa j = nI (v j)) → wX_doCommand_167 post (nI s) (nI m) st lf cd bg gv ob ol pb pn xp fh fl fa mk cb mi mb ml pa kb kl kc th pl md cr hc hg hi ib il it qi qc gc lc lr co → wpX_doCommand post (nI m, st, lf, cd, bg, gv, ob, ol, pb, pn, xp, fh, fl, fa, mk, cb, mi, mb, ml, pa, kb, kl, kc, th, pl, md, cr, hc, hg, hi, ib, il, it, qi, qc, gc, lc, lr, co) (nI s) := by
    intro lf cd bg pb pn xp fh fl fa mk cb mi mb ml pa kb kl kc co post hpa hp
    refine nm_r (hpa 1 (by omega)) ?_
    rw [hpa 0 (by omega)]
    rcases kn with k | k | k
    · rw [k]; exact nm_e (br_f (by decide) (br_f (by decide) (br_f (by decide) (br_f (by decide) (br_t rfl (hp))))))
    · rw [k]; exact nm_e (br_f (by decide) (br_f (by decide) (br_f (by decide) (br_f (by decide) (br_f (by decide) (br_t rfl (hp)))))))
    · rw [k]; exact nm_e (br_f (by decide) (br_f (by decide) (br_f (by decide) (br_f (by decide) (br_f (by decide) (br_f (by decide) (br_t rfl (hp))))))))
  -- Y's way to does
  have roadY : ∀ {lf cd pb pn yp ki le go mk cb mb ml la ps pd pt kw kh kf kz ky wo be : Nat → Int32} {wr : Int32} (post : Int32 → SY → Prop), (∀ j, j < m → wo j = nI (v j)) → wpY_does (fun r u => match u with | (fr, en, ma, wr, st, lf, cd, ta, bg, kc, ob, ol, pb, pn, yp, ki, le, go, mk, cb, mb, ml, la, ps, pd, pt, kw, kh, kf, kz, ky, th, pl, md, cr, gc, lc, lr, wh, od, tg, tr, so, bd, wo, be) => ((r = 0 → post 0 (fr, en, ma, wr, st, lf, cd, ta, bg, kc, ob, ol, pb, pn, yp, ki, le, go, mk, cb, mb, ml, la, ps, pd, pt, kw, kh, kf, kz, ky, th, pl, md, cr, gc, lc, lr, wh, od, tg, tr, so, bd, wo, be)) ∧ (¬ r = 0 → post 1 (fr, en, ma, wr, st, lf, cd, ta, bg, kc, ob, ol, pb, pn, yp, ki, le, go, mk, cb, mb, ml, la, ps, pd, pt, kw, kh, kf, kz, ky, th, pl, md, cr, gc, lc, lr, wh, od, tg, tr, so, bd, wo, be)))) (fr, en, nI m, wr, st, lf, cd, ta, bg, kc, ob, ol, pb, pn, yp, ki, le, go, mk, cb, mb, ml, la, ps, pd, pt, kw, kh, kf, kz, ky, th, pl, md, cr, gc, lc, lr, wh, od, tg, tr, so, bd, wo, be) (nI s) (nI (v 0)) (nI (v 1)) (nI (v 2)) (nI (m - 3)) → wpY_command post (fr, en, nI m, wr, st, lf, cd, ta, bg, kc, ob, ol, pb, pn, yp, ki, le, go, mk, cb, mb, ml, la, ps, pd, pt, kw, kh, kf, kz, ky, th, pl, md, cr, gc, lc, lr, wh, od, tg, tr, so, bd, wo, be) (nI s) := by
    intro lf cd pb pn yp ki le go mk cb mb ml la ps pd pt kw kh kf kz ky wo be wr post hwo hp
    refine yk_command hs hm1 hm hv hwo hb hb4 hc' hc6 (fun z => absurd valid z) (fun _ z => by omega) (fun _ z => by omega) (fun _ z => ?_) (fun _ z => ?_) (fun _ z => by omega) (fun _ z => by omega) (fun _ z => by omega) (fun _ z => by omega)
    · rw [z] at hp; exact hp
    · have e0 : m - 3 = 0 := by omega
      rw [e0] at hp; exact hp
  -- the rows of X where the command is put
  have bi : ∀ (pa : Nat → Int32), (∀ j, j < m → pa j = nI (v j)) → bk_mv kb ((s * 7 + c) * 19) pa m ((s * 7 + c) * 19) = nI (v 0) ∧ bk_mv kb ((s * 7 + c) * 19) pa m ((s * 7 + c) * 19 + 1) = nI (v 1) ∧ bk_mv kb ((s * 7 + c) * 19) pa m ((s * 7 + c) * 19 + 2) = nI (v 2) ∧ ∀ j, j < m - 3 → bk_mv kb ((s * 7 + c) * 19) pa m ((s * 7 + c) * 19 + 3 + j) = nI (v (3 + j)) := by
    intro pa hpa
    have z := bk_mv_i kb ((s * 7 + c) * 19) pa m
    refine ⟨?_, ?_, ?_, fun j hj => ?_⟩
    · have := z 0 (by omega)
      rw [Nat.add_zero] at this
      rw [this]; exact hpa 0 (by omega)
    · rw [z 1 (by omega)]; exact hpa 1 (by omega)
    · rw [z 2 (by omega)]; exact hpa 2 (by omega)
    · rw [Nat.add_assoc, z (3 + j) (by omega)]; exact hpa _ (by omega)
  have bo : ∀ (pa : Nat → Int32) (p k : Nat), p ≠ s * 7 + c → k < 19 → bk_mv kb ((s * 7 + c) * 19) pa m (p * 19 + k) = kb (p * 19 + k) := fun pa p k hp hk => bk_mv_o kb _ pa m _ (by omega)
  have mvc : ∀ (pa : Nat → Int32), (∀ j, j < m → pa j = nI (v j)) → bk_mv kb ((s * 7 + c) * 19) pa m = bk_mv kb ((s * 7 + c) * 19) (fun j => nI (v j)) m := fun pa hpa => bk_mv_congr kb _ pa _ m hpa
  by_cases x0 : v 2 = 0
  · -- at once
    obtain ⟨d, h1, r1, t1, x1, y1⟩ := lk_do (ob := ob) (gc := gc) (lc := lc) (s := s) (w := v 0) (a := v 1) (n := m - 3) h rh (by omega) hs kd (fun j => nI (v (3 + j)))
    generalize hkb1 : bk_mv kb ((s * 7 + c) * 19) (fun j => nI (v j)) m = kb1 at *
    generalize hkl1 : upd kl (s * 7 + c) (nI m) = kl1 at *
    have b1 := bi (fun j => nI (v j)) (fun _ _ => rfl)
    have o1 := bo (fun j => nI (v j))
    rw [hkb1] at b1 o1
    have f1 : ∀ j, j < c → kb1 ((s * 7 + j) * 19 + 2) ≠ 0 := by
      intro j hj
      rw [o1 (s * 7 + j) 2 (by omega) (by omega)]
      obtain ⟨w, a, y, n, kk, hy, k0, k1, k2, _⟩ := Ks j hj
      rw [k2]
      exact nI_ne0 (by omega) (by omega)
    have f2 : kb1 ((s * 7 + c) * 19 + 2) = 0 := by rw [b1.2.2.1, x0]; rfl
    have nrj : ∀ j, j ≤ c → bk_nr (fun j => kb1 ((s * 7 + j) * 19 + 2)) 0 j = j := fun j hj => bk_nr_all _ _ j (fun i hi => f1 i (by omega))
    have nrc : bk_nr (fun j => kb1 ((s * 7 + j) * 19 + 2)) 0 (c + 1) = c := by rw [bk_nr_eq (fun j => kb1 ((s * 7 + j) * 19 + 2)) 0 (n := c) f2]; exact nrj c (Nat.le_refl _)
    have kcu : upd (upd kc s (nI (c + 1))) s (nI c) = kc := by rw [bk_uu]; exact bk_uid kc s _ hc'
    refine ⟨d, pl, md, cr, bg, bk_cw 19 kb1 (s * 7) (fun j => kb1 ((s * 7 + j) * 19 + 2)) 0 (c + 1), bk_c1 kl1 (s * 7) (fun j => kb1 ((s * 7 + j) * 19 + 2)) 0 (c + 1), kc, kw, kh, kf, kz, ky, dk_mono h1 (by omega), r1, ?_, hbg, fun r _ => by rw [t1], ?_, ?_⟩
    · refine bk_K_beyond K hs hc' hc6 (fun p k hp28 hp hk => ?_) (fun p hp28 hp => ?_)
      · rw [← o1 p k hp hk]
        by_cases z : s * 7 ≤ p ∧ p < s * 7 + c
        · have := bk_cw_i 19 kb1 (s * 7) (fun j => kb1 ((s * 7 + j) * 19 + 2)) 0 (c + 1) (p - s * 7) k hk (by omega) (f1 (p - s * 7) (by omega))
          rw [nrj (p - s * 7) (by omega), show s * 7 + (p - s * 7) = p by omega] at this
          exact this
        · exact bk_cw_o 19 kb1 (s * 7) _ 0 (c + 1) p k hk (by rw [nrc]; omega)
      · have lk : kl1 p = kl p := by rw [← hkl1]; exact pk_un hp
        rw [← lk]
        by_cases z : s * 7 ≤ p ∧ p < s * 7 + c
        · have := bk_c1_i kl1 (s * 7) (fun j => kb1 ((s * 7 + j) * 19 + 2)) 0 (c + 1) (p - s * 7) (by omega) (f1 (p - s * 7) (by omega))
          rw [nrj (p - s * 7) (by omega), show s * 7 + (p - s * 7) = p by omega] at this
          exact this
        · exact bk_c1_o kl1 (s * 7) _ 0 (c + 1) p (by rw [nrc]; omega)
    · intro lf cd pb pn xp fh fl fa mk cb mi mb ml co pa post hpa hp
      refine road post hpa ?_
      unfold wX_doCommand_167
      refine xk_keep hs hc6 (by omega) hc' ?_
      rw [mvc pa hpa, hkl1]
      refine br_t (by rw [hpa 2 (by omega), x0]; rfl) ⟨pk_in s 4 hs, ?_⟩
      rw [cs, pk_us]
      refine nm_e ⟨2 + c, ?_⟩
      refine xk_skip0 (f := 2) hs (by omega) (fun j hj => nI_ge (by omega) (by omega)) f1 ?_
      refine x1 _ 1 c 0 (nI (c + 1)) (by omega) b1.1 b1.2.1 f2 (by rw [← hkl1, pk_us, em]) b1.2.2.2 (nI_ge (by omega) (by omega)) ?_
      refine br_t (nI_le (Nat.le_refl _) (by omega)) ?_
      refine xk_dropKept (c := c + 1) hs (by omega) pk_us ?_
      rw [nrc, kcu]
      exact hp
    · intro lf cd pb pn yp ki le go mk cb mb ml la ps pd pt wo be wr hwo
      refine ⟨wo, fun post hp => roadY post hwo ?_⟩
      rw [x0]
      exact y1 _ (fun j hj => hwo _ (by omega)) (br_f (by decide) hp)
  · -- kept
    have hc5 : c < 6 := by
      rcases k3.2.2 with z | z
      · exact absurd z x0
      · exact z.2
    have hbeg : bk_Beg b (v 2) := by
      rcases k3.2.2 with z | z
      · exact absurd z x0
      · exact z.1
    have x12 : v 2 = 1 ∨ v 2 = 2 := by
      rcases hbeg with z | z
      · exact Or.inl z.1
      · exact Or.inr z.1
    have b1 := bi (fun j => nI (v j)) (fun _ _ => rfl)
    refine ⟨(A, g, ob, ol, gc, lc, lr, gv, th, hc, hg, hi, ib, il, it, qi, qc, ta, wh, od, tg, tr, so, bd, fr, en), pl, md, cr, bg, bk_mv kb ((s * 7 + c) * 19) (fun j => nI (v j)) m, upd kl (s * 7 + c) (nI m), upd kc s (nI (c + 1)), upd kw (6 * s + c) (nI (v 0)), upd kh (6 * s + c) (nI (v 1)), upd kf (6 * s + c) (nI (v 2)), upd kz (6 * s + c) (nI (m - 3)), bk_mv ky ((6 * s + c) * 16) (fun k => nI (v (3 + k))) (m - 3), dk_mono h (by omega), rh, ?_, hbg, fun _ _ => rfl, ?_, ?_⟩
    · refine bk_K_more (w := v 0) (a := v 1) (x := v 2) (n := m - 3) K hs hc' hc5 (fun p k hp28 hp hk => bo _ p k hp hk) (fun p _ hp => pk_un hp) (fun p hp => pk_un hp) (fun p hp => pk_un hp) (fun p hp => pk_un hp) (fun p hp => pk_un hp) (fun p k hp hk => bk_mv_o ky _ _ _ _ (by omega)) ?_
      refine ⟨kd, x12, b1.1, b1.2.1, b1.2.2.1, by rw [pk_us, em], pk_us, pk_us, pk_us, pk_us, fun j hj => ?_⟩
      rw [b1.2.2.2 j hj, Nat.mul_comm 16 (6 * s + c), bk_mv_i ky _ _ _ j hj]
    · intro lf cd pb pn xp fh fl fa mk cb mi mb ml co pa post hpa hp
      refine road post hpa ?_
      unfold wX_doCommand_167
      refine xk_keep hs hc6 (by omega) hc' ?_
      rw [mvc pa hpa]
      exact br_f (by rw [hpa 2 (by omega)]; exact nI_ne0 (by omega) (by omega)) hp
    · intro lf cd pb pn yp ki le go mk cb mb ml la ps pd pt wo be wr hwo
      refine ⟨wo, fun post hp => roadY post hwo ?_⟩
      refine yk_keep hs hc5 (by omega) hc' (nI_ne0 (by omega) (by omega)) ?_
      rw [bk_mv_congr ky ((6 * s + c) * 16) (fun k => wo (3 + k)) (fun k => nI (v (3 + k))) (m - 3) (fun j hj => hwo _ (by omega))]
      exact br_f (by decide) hp
theorem lk_cmd7 {B : Nat} {A : Nat → List bk_E} {g : Nat → Nat} {ob : Nat → Int32} {ol : Nat → Int32} {gc : Nat → Int32} {lc : Nat → Int32} {lr : Nat → Int32} {gv : Nat → Int32} {th : Nat → Int32} {hc : Nat → Int32} {hg : Nat → Int32} {hi : Nat → Int32} {ib : Nat → Int32} {il : Nat → Int32} {it : Nat → Int32} {qi : Nat → Int32} {qc : Nat → Int32} {ta : Nat → Int32} {wh : Nat → Int32} {od : Nat → Int32} {tg : Nat → Int32} {tr : Nat → Int32} {so : Nat → Int32} {bd : Nat → Int32} {fr : Int32} {en : Int32} {bg kb kl kc kw kh kf kz ky : Nat → Int32} (h : bk_C B A g st ol th pl md cr lr gv ib il it qi qc ta wh od tg tr so bd fr en) (rh : bk_RH A hi hg hc) (K : ∀ z, z < 4 → bk_K kc kb kl kw kh kf kz ky z) (hbg : ∀ z, z < 4 → ∃ b, b < 4 ∧ bg z = nI b) (hB : B + 112 ≤ 100000000) {s m b c : Nat} {v : Nat → Nat} (hs : s < 4) (hm1 : 1 ≤ m) (hm : m ≤ 200) (hv : ∀ j, v j < 256) (hb : bg s = nI b) (hb4 : b < 4) (hc' : kc s = nI c) (hc6 : c ≤ 6) (valid : bk_Vd th s m b c v) (k : v 0 = 7) :
    ∃ (d : bk_DT) (pl' md' cr' bg' kb' kl' kc' kw' kh' kf' kz' ky' : Nat → Int32), bk_C (B + 112) (zz_A d) (zz_g d) st (zz_ol d) (zz_th d) pl' md' cr' (zz_lr d) (zz_gv d) (zz_ib d) (zz_il d) (zz_it d) (zz_qi d) (zz_qc d) (zz_ta d) (zz_wh d) (zz_od d) (zz_tg d) (zz_tr d) (zz_so d) (zz_bd d) (zz_fr d) (zz_en d) ∧ bk_RH (zz_A d) (zz_hi d) (zz_hg d) (zz_hc d) ∧ (∀ z, z < 4 → bk_K kc' kb' kl' kw' kh' kf' kz' ky' z) ∧ (∀ z, z < 4 → ∃ b, b < 4 ∧ bg' z = nI b) ∧ (∀ r, r / 4 ≠ s → zz_th d r = th r) ∧
      (∀ {lf cd pb pn xp fh fl fa mk cb mi mb ml co : Nat → Int32} (pa : Nat → Int32) (post : SX → Prop), (∀ j, j < m → pa j = nI (v j)) → post (nI m, st, lf, cd, bg', zz_gv d, zz_ob d, zz_ol d, pb, pn, xp, fh, fl, fa, mk, cb, mi, mb, ml, pa, kb', kl', kc', zz_th d, pl', md', cr', zz_hc d, zz_hg d, zz_hi d, zz_ib d, zz_il d, zz_it d, zz_qi d, zz_qc d, zz_gc d, zz_lc d, zz_lr d, co) → wpX_doCommand post (nI m, st, lf, cd, bg, gv, ob, ol, pb, pn, xp, fh, fl, fa, mk, cb, mi, mb, ml, pa, kb, kl, kc, th, pl, md, cr, hc, hg, hi, ib, il, it, qi, qc, gc, lc, lr, co) (nI s)) ∧
      (∀ {lf cd pb pn yp ki le go mk cb mb ml la ps pd pt wo be : Nat → Int32} {wr : Int32}, (∀ j, j < m → wo j = nI (v j)) → ∃ wo' : Nat → Int32, ∀ (post : Int32 → SY → Prop), post 1 (zz_fr d, zz_en d, nI m, wr, st, lf, cd, zz_ta d, bg', kc', zz_ob d, zz_ol d, pb, pn, yp, ki, le, go, mk, cb, mb, ml, la, ps, pd, pt, kw', kh', kf', kz', ky', zz_th d, pl', md', cr', zz_gc d, zz_lc d, zz_lr d, zz_wh d, zz_od d, zz_tg d, zz_tr d, zz_so d, zz_bd d, wo', be) → wpY_command post (fr, en, nI m, wr, st, lf, cd, ta, bg, kc, ob, ol, pb, pn, yp, ki, le, go, mk, cb, mb, ml, la, ps, pd, pt, kw, kh, kf, kz, ky, th, pl, md, cr, gc, lc, lr, wh, od, tg, tr, so, bd, wo, be) (nI s)) := by
  have cs : (nI s).toNatClampNeg = s := nI_clamp (by omega)
  have hv0 := hv 0
  have hv1 := hv 1
  have hv2 := hv 2
  have hv3 := hv 3
  have hv4 := hv 4
  obtain ⟨e5, q1⟩ := (vd_7 k).mp valid
  have v12 : v 1 = 1 ∨ v 1 = 2 := by
    rcases q1 with z | z
    · exact Or.inl z.1
    · exact Or.inr z.1
  obtain ⟨b', hb', eb⟩ := bk_band b hb4 (v 1) (by omega)
  obtain ⟨c', _, ec, Ks⟩ := K s hs
  rw [hc'] at ec
  have ec : c = c' := (nI_eq (by omega) (by omega)).mp ec
  subst ec
  obtain ⟨nrE, KK⟩ := bk_K_close K (x := v 1) hs (by omega) hc' hc6
  have e6 : 6 * nI s = nI (6 * s) := bn_mul2 s 6
  obtain ⟨d, h1, r1, t1, x1, y1⟩ := lk_close (ob := ob) (gc := gc) (lc := lc) (x := v 1) (c := c) hs v12 hc6 Ks c (Nat.le_refl _) h rh (by omega)
  simp only [Nat.sub_self] at x1
  refine ⟨d, pl, md, cr, upd bg s (bg s &&& (nI (v 1) ^^^ (-1))), bk_cw 19 kb (s * 7) (fun j => kb ((s * 7 + j) * 19 + 2)) (nI (v 1)) c, bk_c1 kl (s * 7) (fun j => kb ((s * 7 + j) * 19 + 2)) (nI (v 1)) c, upd kc s (nI (bk_nr (fun j => kf (6 * s + j)) (nI (v 1)) c)), bk_c1 kw (6 * s) (fun j => kf (6 * s + j)) (nI (v 1)) c, bk_c1 kh (6 * s) (fun j => kf (6 * s + j)) (nI (v 1)) c, bk_c1 kf (6 * s) (fun j => kf (6 * s + j)) (nI (v 1)) c, bk_c1 kz (6 * s) (fun j => kf (6 * s + j)) (nI (v 1)) c, bk_cw 16 ky (6 * s) (fun j => kf (6 * s + j)) (nI (v 1)) c, dk_mono h1 (by omega), r1, KK, ?_, fun r _ => by rw [t1], ?_, ?_⟩
  · intro z hz
    by_cases e : z = s
    · subst e
      exact ⟨b', hb', by rw [pk_us, hb]; exact eb⟩
    · rw [pk_un e]; exact hbg z hz
  · intro lf cd pb pn xp fh fl fa mk cb mi mb ml co pa post hpa hp
    refine nm_r (hpa 1 (by omega)) (nm_r (by rw [hpa 0 (by omega), k]) ?_)
    refine br_f (by decide) (br_f (by decide) (br_f (by decide) (br_f (by decide) (br_f (by decide) (br_f (by decide) (br_f (by decide) (br_f (by decide) (br_t rfl (?_)))))))))
    refine ⟨pk_in s 4 hs, ?_⟩
    rw [cs, hc']
    refine nm_e ⟨c + 1, x1 _ (c + 1) (by omega) ?_⟩
    refine xk_dropKept (c := c) hs (by omega) hc' ⟨pk_in s 4 hs, pk_in s 4 hs, ?_⟩
    rw [nrE]
    exact nm_e hp
  · intro lf cd pb pn yp ki le go mk cb mb ml la ps pd pt wo be wr hwo
    obtain ⟨wo', y2⟩ := y1 (lf := lf) (cd := cd) (bg := upd bg s (bg s &&& (nI (v 1) ^^^ (-1)))) (kc := kc) (pb := pb) (pn := pn) (yp := yp) (ki := ki) (le := le) (go := go) (mk := mk) (cb := cb) (mb := mb) (ml := ml) (la := la) (ps := ps) (pd := pd) (pt := pt) (wo := wo) (be := be) (ma := nI m) (wr := wr)
    refine ⟨wo', fun post hp => yk_command hs hm1 hm hv hwo hb hb4 hc' hc6 (fun z => absurd valid z) (fun _ z => by omega) (fun _ z => by omega) (fun _ z => by omega) (fun _ z => by omega) (fun _ z => by omega) (fun _ _ => ?_) (fun _ z => by omega) (fun _ z => by omega)⟩
    refine ⟨pk_in s 4 hs, ?_⟩
    rw [cs, hc', e6]
    refine nm_e ⟨pk_in s 4 hs, pk_in s 4 hs, nm_e (nm_e ⟨c + 1, ?_⟩)⟩
    have yy := y2 (fun r u => match u with | (fr, en, ma, wr, st, lf, cd, ta, bg, kc, ob, ol, pb, pn, yp, ki, le, go, mk, cb, mb, ml, la, ps, pd, pt, kw, kh, kf, kz, ky, th, pl, md, cr, gc, lc, lr, wh, od, tg, tr, so, bd, wo, be) => ((r = 0 → post 0 (fr, en, ma, wr, st, lf, cd, ta, bg, kc, ob, ol, pb, pn, yp, ki, le, go, mk, cb, mb, ml, la, ps, pd, pt, kw, kh, kf, kz, ky, th, pl, md, cr, gc, lc, lr, wh, od, tg, tr, so, bd, wo, be)) ∧ (¬ r = 0 → post 1 (fr, en, ma, wr, st, lf, cd, ta, bg, kc, ob, ol, pb, pn, yp, ki, le, go, mk, cb, mb, ml, la, ps, pd, pt, kw, kh, kf, kz, ky, th, pl, md, cr, gc, lc, lr, wh, od, tg, tr, so, bd, wo, be)))) (c + 1) (by omega) (br_f (by decide) hp)
    rw [Nat.sub_self] at yy
    exact yy
theorem lk_cmd8 {B : Nat} {A : Nat → List bk_E} {g : Nat → Nat} {ob : Nat → Int32} {ol : Nat → Int32} {gc : Nat → Int32} {lc : Nat → Int32} {lr : Nat → Int32} {gv : Nat → Int32} {th : Nat → Int32} {hc : Nat → Int32} {hg : Nat → Int32} {hi : Nat → Int32} {ib : Nat → Int32} {il : Nat → Int32} {it : Nat → Int32} {qi : Nat → Int32} {qc : Nat → Int32} {ta : Nat → Int32} {wh : Nat → Int32} {od : Nat → Int32} {tg : Nat → Int32} {tr : Nat → Int32} {so : Nat → Int32} {bd : Nat → Int32} {fr : Int32} {en : Int32} {bg kb kl kc kw kh kf kz ky : Nat → Int32} (h : bk_C B A g st ol th pl md cr lr gv ib il it qi qc ta wh od tg tr so bd fr en) (rh : bk_RH A hi hg hc) (K : ∀ z, z < 4 → bk_K kc kb kl kw kh kf kz ky z) (hbg : ∀ z, z < 4 → ∃ b, b < 4 ∧ bg z = nI b) (hB : B + 112 ≤ 100000000) {s m b c : Nat} {v : Nat → Nat} (hs : s < 4) (hm1 : 1 ≤ m) (hm : m ≤ 200) (hv : ∀ j, v j < 256) (hb : bg s = nI b) (hb4 : b < 4) (hc' : kc s = nI c) (hc6 : c ≤ 6) (valid : bk_Vd th s m b c v) (k : v 0 = 8) :
    ∃ (d : bk_DT) (pl' md' cr' bg' kb' kl' kc' kw' kh' kf' kz' ky' : Nat → Int32), bk_C (B + 112) (zz_A d) (zz_g d) st (zz_ol d) (zz_th d) pl' md' cr' (zz_lr d) (zz_gv d) (zz_ib d) (zz_il d) (zz_it d) (zz_qi d) (zz_qc d) (zz_ta d) (zz_wh d) (zz_od d) (zz_tg d) (zz_tr d) (zz_so d) (zz_bd d) (zz_fr d) (zz_en d) ∧ bk_RH (zz_A d) (zz_hi d) (zz_hg d) (zz_hc d) ∧ (∀ z, z < 4 → bk_K kc' kb' kl' kw' kh' kf' kz' ky' z) ∧ (∀ z, z < 4 → ∃ b, b < 4 ∧ bg' z = nI b) ∧ (∀ r, r / 4 ≠ s → zz_th d r = th r) ∧
      (∀ {lf cd pb pn xp fh fl fa mk cb mi mb ml co : Nat → Int32} (pa : Nat → Int32) (post : SX → Prop), (∀ j, j < m → pa j = nI (v j)) → post (nI m, st, lf, cd, bg', zz_gv d, zz_ob d, zz_ol d, pb, pn, xp, fh, fl, fa, mk, cb, mi, mb, ml, pa, kb', kl', kc', zz_th d, pl', md', cr', zz_hc d, zz_hg d, zz_hi d, zz_ib d, zz_il d, zz_it d, zz_qi d, zz_qc d, zz_gc d, zz_lc d, zz_lr d, co) → wpX_doCommand post (nI m, st, lf, cd, bg, gv, ob, ol, pb, pn, xp, fh, fl, fa, mk, cb, mi, mb, ml, pa, kb, kl, kc, th, pl, md, cr, hc, hg, hi, ib, il, it, qi, qc, gc, lc, lr, co) (nI s)) ∧
      (∀ {lf cd pb pn yp ki le go mk cb mb ml la ps pd pt wo be : Nat → Int32} {wr : Int32}, (∀ j, j < m → wo j = nI (v j)) → ∃ wo' : Nat → Int32, ∀ (post : Int32 → SY → Prop), post 1 (zz_fr d, zz_en d, nI m, wr, st, lf, cd, zz_ta d, bg', kc', zz_ob d, zz_ol d, pb, pn, yp, ki, le, go, mk, cb, mb, ml, la, ps, pd, pt, kw', kh', kf', kz', ky', zz_th d, pl', md', cr', zz_gc d, zz_lc d, zz_lr d, zz_wh d, zz_od d, zz_tg d, zz_tr d, zz_so d, zz_bd d, wo', be) → wpY_command post (fr, en, nI m, wr, st, lf, cd, ta, bg, kc, ob, ol, pb, pn, yp, ki, le, go, mk, cb, mb, ml, la, ps, pd, pt, kw, kh, kf, kz, ky, th, pl, md, cr, gc, lc, lr, wh, od, tg, tr, so, bd, wo, be) (nI s)) := by
  have cs : (nI s).toNatClampNeg = s := nI_clamp (by omega)
  have hv0 := hv 0
  have hv1 := hv 1
  have hv2 := hv 2
  have hv3 := hv 3
  have hv4 := hv 4
  obtain ⟨e5, q1⟩ := (vd_8 k).mp valid
  have v12 : v 1 = 1 ∨ v 1 = 2 := by
    rcases q1 with z | z
    · exact Or.inl z.1
    · exact Or.inr z.1
  obtain ⟨b', hb', eb⟩ := bk_band b hb4 (v 1) (by omega)
  obtain ⟨c', _, ec, Ks⟩ := K s hs
  rw [hc'] at ec
  have ec : c = c' := (nI_eq (by omega) (by omega)).mp ec
  subst ec
  obtain ⟨nrE, KK⟩ := bk_K_close K (x := v 1) hs (by omega) hc' hc6
  have e6 : 6 * nI s = nI (6 * s) := bn_mul2 s 6
  refine ⟨(A, g, ob, ol, gc, lc, lr, gv, th, hc, hg, hi, ib, il, it, qi, qc, ta, wh, od, tg, tr, so, bd, fr, en), pl, md, cr, upd bg s (bg s &&& (nI (v 1) ^^^ (-1))), bk_cw 19 kb (s * 7) (fun j => kb ((s * 7 + j) * 19 + 2)) (nI (v 1)) c, bk_c1 kl (s * 7) (fun j => kb ((s * 7 + j) * 19 + 2)) (nI (v 1)) c, upd kc s (nI (bk_nr (fun j => kf (6 * s + j)) (nI (v 1)) c)), bk_c1 kw (6 * s) (fun j => kf (6 * s + j)) (nI (v 1)) c, bk_c1 kh (6 * s) (fun j => kf (6 * s + j)) (nI (v 1)) c, bk_c1 kf (6 * s) (fun j => kf (6 * s + j)) (nI (v 1)) c, bk_c1 kz (6 * s) (fun j => kf (6 * s + j)) (nI (v 1)) c, bk_cw 16 ky (6 * s) (fun j => kf (6 * s + j)) (nI (v 1)) c, dk_mono h (by omega), rh, KK, ?_, fun r _ => rfl, ?_, ?_⟩
  · intro z hz
    by_cases e : z = s
    · subst e
      exact ⟨b', hb', by rw [pk_us, hb]; exact eb⟩
    · rw [pk_un e]; exact hbg z hz
  · intro lf cd pb pn xp fh fl fa mk cb mi mb ml co pa post hpa hp
    refine nm_r (hpa 1 (by omega)) (nm_r (by rw [hpa 0 (by omega), k]) ?_)
    refine br_f (by decide) (br_f (by decide) (br_f (by decide) (br_f (by decide) (br_f (by decide) (br_f (by decide) (br_f (by decide) (br_f (by decide) (br_f (by decide) (br_t rfl (?_))))))))))
    refine xk_dropKept (c := c) hs (by omega) hc' ⟨pk_in s 4 hs, pk_in s 4 hs, ?_⟩
    rw [cs, nrE]
    exact nm_e hp
  · intro lf cd pb pn yp ki le go mk cb mb ml la ps pd pt wo be wr hwo
    obtain ⟨wo', y2⟩ := yk_close0 (x := v 1) (c := c) (kb := kb) (kl := kl) (kw := kw) (kh := kh) (kf := kf) (kz := kz) (ky := ky) (st := st) (pl := pl) (md := md) (cr := cr) (ob := ob) (ol := ol) (gc := gc) (lc := lc) (lr := lr) (th := th) (ta := ta) (wh := wh) (od := od) (tg := tg) (tr := tr) (so := so) (bd := bd) (fr := fr) (en := en) (lf := lf) (cd := cd) (bg := upd bg s (bg s &&& (nI (v 1) ^^^ (-1)))) (kc := kc) (pb := pb) (pn := pn) (yp := yp) (ki := ki) (le := le) (go := go) (mk := mk) (cb := cb) (mb := mb) (ml := ml) (la := la) (ps := ps) (pd := pd) (pt := pt) (be := be) (ma := nI m) (wr := wr) hs (by omega) hc6 Ks c (Nat.le_refl _) wo
    refine ⟨wo', fun post hp => yk_command hs hm1 hm hv hwo hb hb4 hc' hc6 (fun z => absurd valid z) (fun _ z => by omega) (fun _ z => by omega) (fun _ z => by omega) (fun _ z => by omega) (fun _ z => by omega) (fun _ z => by omega) (fun _ _ => ?_) (fun _ z => by omega)⟩
    refine ⟨pk_in s 4 hs, ?_⟩
    rw [cs, hc', e6]
    refine nm_e ⟨pk_in s 4 hs, pk_in s 4 hs, nm_e (nm_e ⟨c + 1, ?_⟩)⟩
    have yy := y2 (fun r u => match u with | (fr, en, ma, wr, st, lf, cd, ta, bg, kc, ob, ol, pb, pn, yp, ki, le, go, mk, cb, mb, ml, la, ps, pd, pt, kw, kh, kf, kz, ky, th, pl, md, cr, gc, lc, lr, wh, od, tg, tr, so, bd, wo, be) => ((r = 0 → post 0 (fr, en, ma, wr, st, lf, cd, ta, bg, kc, ob, ol, pb, pn, yp, ki, le, go, mk, cb, mb, ml, la, ps, pd, pt, kw, kh, kf, kz, ky, th, pl, md, cr, gc, lc, lr, wh, od, tg, tr, so, bd, wo, be)) ∧ (¬ r = 0 → post 1 (fr, en, ma, wr, st, lf, cd, ta, bg, kc, ob, ol, pb, pn, yp, ki, le, go, mk, cb, mb, ml, la, ps, pd, pt, kw, kh, kf, kz, ky, th, pl, md, cr, gc, lc, lr, wh, od, tg, tr, so, bd, wo, be)))) (c + 1) (by omega) (br_f (by decide) hp)
    rw [Nat.sub_self] at yy
    exact yy
end CMD2
end
section
/-! messages become part of the past -/
def bk_pi (pb pa : Nat → Int32) (s k m i : Nat) : Nat → Int32 := fun j => if 64 * s ≤ j ∧ j < 64 * s + i then bk_past pb pa s k m j else pb j
theorem bk_pi_0 (pb pa : Nat → Int32) (s k m : Nat) : bk_pi pb pa s k m 0 = pb := by
  funext j; unfold bk_pi; rw [if_neg (by omega)]
theorem bk_pi_s (pb pa : Nat → Int32) (s k m i : Nat) : upd (bk_pi pb pa s k m i) (64 * s + i) (bk_past pb pa s k m (64 * s + i)) = bk_pi pb pa s k m (i + 1) := by
  funext j
  unfold upd bk_pi
  by_cases e : j = 64 * s + i
  · rw [if_pos e, if_pos (by omega), e]
  · rw [if_neg e]
    by_cases h : 64 * s ≤ j ∧ j < 64 * s + i
    · rw [if_pos h, if_pos (by omega)]
    · rw [if_neg h, if_neg (by omega)]
theorem bk_pi_e (pb pa : Nat → Int32) (s k m : Nat) : bk_pi pb pa s k m (min 64 (k + m)) = bk_past pb pa s k m := by
  funext j
  unfold bk_pi
  by_cases h : 64 * s ≤ j ∧ j < 64 * s + min 64 (k + m)
  · rw [if_pos h]
  · rw [if_neg h]
    unfold bk_past
    rw [if_neg h]
theorem bk_pi_o (pb pa : Nat → Int32) (s k m i x : Nat) (h : i ≤ x) : bk_pi pb pa s k m i (64 * s + x) = pb (64 * s + x) := by
  unfold bk_pi; rw [if_neg (by omega)]
theorem bk_past_at (pb pa : Nat → Int32) (s k m i : Nat) (h : i < min 64 (k + m)) : bk_past pb pa s k m (64 * s + i) = if (k + m - 64) + i < k then pb (64 * s + ((k + m - 64) + i)) else pa ((k + m - 64) + i - k) := by
  unfold bk_past
  rw [if_pos (by omega)]
  by_cases z : (k + m - 64) + i < k
  · rw [if_pos z, if_pos (by omega)]
    exact congrArg pb (by omega)
  · rw [if_neg z, if_neg (by omega)]
    exact congrArg pa (by omega)
section REM
variable {B : Nat} {A : Nat → List bk_E} {g : Nat → Nat} {st lf cd bg gv ob ol pb pn xp fh fl fa mk cb mi mb ml pa kb kl kc th pl md cr hc hg hi ib il it qi qc gc lc lr co ta yp ki le go la ps pd pt kw kh kf kz ky wh od tg tr so bd wo be : Nat → Int32} {px fr en ma wr : Int32}
theorem xk_rem41 {post : SX → Prop} {s k m : Nat} (hs : s < 4) (hk : k ≤ 64) (hm : m ≤ 200)
    (hp : post (nI m, st, lf, cd, bg, gv, ob, ol, bk_past pb pa s k m, upd pn s (nI (min 64 (k + m))), xp, fh, fl, fa, mk, cb, mi, mb, ml, pa, kb, kl, kc, th, pl, md, cr, hc, hg, hi, ib, il, it, qi, qc, gc, lc, lr, co)) :
    ∀ f i, i ≤ min 64 (k + m) → min 64 (k + m) - i < f → wX_remember_41 post (nI s) (nI (64 * s)) (nI k) (nI (k + m)) (nI (k + m - 64)) (nI m) f (nI i) st lf cd bg gv ob ol (bk_pi pb pa s k m i) pn xp fh fl fa mk cb mi mb ml pa kb kl kc th pl md cr hc hg hi ib il it qi qc gc lc lr co
  | 0, i, _, h => by omega
  | f + 1, i, h1, h2 => by
    have cs : (nI s).toNatClampNeg = s := nI_clamp (by omega)
    have eM : nI (k + m) - nI (k + m - 64) = nI (min 64 (k + m)) := by
      rw [pk_sub (by omega)]
      exact congrArg nI (by omega)
    have e7 : nI (k + m - 64) + nI i = nI ((k + m - 64) + i) := nI_add _ _
    have e1 : nI (64 * s) + nI i = nI (64 * s + i) := nI_add _ _
    have c1 : (nI (64 * s + i)).toNatClampNeg = 64 * s + i := nI_clamp (by omega)
    have ih := fun g => xk_rem41 hs hk hm hp f (i + 1) g (by omega)
    rw [← bk_pi_s] at ih
    unfold wX_remember_41
    rw [eM]
    refine pk_le (min 64 (k + m)) i (fun g => ⟨pk_in s 4 hs, ?_⟩) (fun g => nm_r e7 ?_)
    · have : i = min 64 (k + m) := by omega
      rw [this, bk_pi_e, cs]
      exact nm_e hp
    · rw [e1, c1]
      have at_ := bk_past_at pb pa s k m i g
      refine pk_le k ((k + m - 64) + i) (fun z => ?_) (fun z => ?_)
      · have e3 : nI ((k + m - 64) + i) - nI k = nI ((k + m - 64) + i - k) := pk_sub z
        have c3 : (nI ((k + m - 64) + i - k)).toNatClampNeg = (k + m - 64) + i - k := nI_clamp (by omega)
        rw [e3, c3]
        rw [if_neg (by omega)] at at_
        rw [← at_]
        exact ⟨vp_in_nI (by omega) (by omega), vp_in_nI (by omega) (by omega), nm_e (nm_r (nI_1 i) (ih (by omega)))⟩
      · have e3 : nI (64 * s) + nI ((k + m - 64) + i) = nI (64 * s + ((k + m - 64) + i)) := nI_add _ _
        have c3 : (nI (64 * s + ((k + m - 64) + i))).toNatClampNeg = 64 * s + ((k + m - 64) + i) := nI_clamp (by omega)
        rw [e3, c3, bk_pi_o pb pa s k m i _ (by omega)]
        rw [if_pos z] at at_
        rw [← at_]
        exact ⟨vp_in_nI (by omega) (by omega), vp_in_nI (by omega) (by omega), nm_e (nm_r (nI_1 i) (ih (by omega)))⟩
theorem xk_remember {post : SX → Prop} {s k m : Nat} (hs : s < 4) (hk : k ≤ 64) (hm : m ≤ 200) (hn : pn s = nI k)
    (hp : post (nI m, st, lf, cd, bg, gv, ob, ol, bk_past pb pa s k m, upd pn s (nI (min 64 (k + m))), xp, fh, fl, fa, mk, cb, mi, mb, ml, pa, kb, kl, kc, th, pl, md, cr, hc, hg, hi, ib, il, it, qi, qc, gc, lc, lr, co)) : wpX_remember post (nI m, st, lf, cd, bg, gv, ob, ol, pb, pn, xp, fh, fl, fa, mk, cb, mi, mb, ml, pa, kb, kl, kc, th, pl, md, cr, hc, hg, hi, ib, il, it, qi, qc, gc, lc, lr, co) (nI s) := by
  have cs : (nI s).toNatClampNeg = s := nI_clamp (by omega)
  have e6 : nI s * 64 = nI (64 * s) := by rw [bn_mul, Nat.mul_comm]
  have e64 : nI (k + m) - 64 = nI (k + m) - nI 64 := rfl
  have w := xk_rem41 (pn := pn) hs hk hm hp (min 64 (k + m) + 1) 0 (by omega) (by omega)
  rw [bk_pi_0] at w
  refine nm_r e6 ⟨pk_in s 4 hs, ?_⟩
  rw [cs, hn]
  refine nm_e (nm_r (nI_add k m) (pk_le (k + m) 64 (fun g => ?_) (fun g => ?_)))
  · have e0 : k + m - 64 = 0 := by omega
    rw [e0] at w
    exact ⟨_, w⟩
  · refine nm_r (pk_sub (a := k + m) (b := 64) (by omega)) ⟨_, w⟩
theorem yk_rem16 {post : SY → Prop} {s : Nat} {x : Int32} (hs : s < 4) (hp : post (fr, en, ma, wr, st, lf, cd, ta, bg, kc, ob, ol, upd (bk_shl pb (64 * s) 63) (64 * s + 63) x, upd pn s (nI 64), yp, ki, le, go, mk, cb, mb, ml, la, ps, pd, pt, kw, kh, kf, kz, ky, th, pl, md, cr, gc, lc, lr, wh, od, tg, tr, so, bd, wo, be)) :
    ∀ f i, i ≤ 63 → 63 - i < f → wY_remember_16 post (nI s) x fr en ma wr f (nI (64 * s + i)) st lf cd ta bg kc ob ol (bk_shl pb (64 * s) i) pn yp ki le go mk cb mb ml la ps pd pt kw kh kf kz ky th pl md cr gc lc lr wh od tg tr so bd wo be
  | 0, i, _, h => by omega
  | f + 1, i, h1, h2 => by
    have cs : (nI s).toNatClampNeg = s := nI_clamp (by omega)
    have e1 : 64 * nI s + 63 = nI (64 * s + 63) := by rw [bn_mul2, bn_add]
    have c0 : (nI (64 * s + i)).toNatClampNeg = 64 * s + i := nI_clamp (by omega)
    have c1 : (nI (64 * s + i + 1)).toNatClampNeg = 64 * s + i + 1 := nI_clamp (by omega)
    refine br_c (fun g => ⟨pk_in s 4 hs, ?_⟩) (fun g => ?_)
    · rw [e1] at g
      have g := (nI_leI (by omega) (by omega)).mp g
      have : i = 63 := by omega
      subst this
      rw [cs]
      refine nm_e ⟨pk_in s 4 hs, ?_⟩
      have e2 : 64 * nI s + (63 : Int32) = nI (64 * s + 63) := e1
      have c2 : (nI (64 * s + 63)).toNatClampNeg = 64 * s + 63 := nI_clamp (by omega)
      rw [cs, pk_us, e2, c2, bk_uu]
      exact ⟨vp_in_nI (by omega) (by omega), nm_e ⟨pk_in s 4 hs, pk_in s 4 hs, nm_e hp⟩⟩
    · have g : i < 63 := by
        apply Classical.byContradiction
        intro z
        exact g (by rw [e1]; exact nI_le (by omega) (by omega))
      rw [nI_1 (64 * s + i), c0, c1, bk_shl_o, bk_shl_s]
      exact ⟨vp_in_nI (by omega) (by omega), vp_in_nI (by omega) (by omega), nm_e (nm_e (yk_rem16 hs hp f (i + 1) (by omega) (by omega)))⟩
/-- a byte more -/
theorem yk_remember {post : SY → Prop} {s k m : Nat} {wk pb0 pn0 : Nat → Int32} (hs : s < 4) (hk : k ≤ 64)
    (hp : post (fr, en, ma, wr, st, lf, cd, ta, bg, kc, ob, ol, bk_past pb0 wk s k (m + 1), upd pn0 s (nI (min 64 (k + (m + 1)))), yp, ki, le, go, mk, cb, mb, ml, la, ps, pd, pt, kw, kh, kf, kz, ky, th, pl, md, cr, gc, lc, lr, wh, od, tg, tr, so, bd, wo, be)) : wpY_remember post (fr, en, ma, wr, st, lf, cd, ta, bg, kc, ob, ol, bk_past pb0 wk s k m, upd pn0 s (nI (min 64 (k + m))), yp, ki, le, go, mk, cb, mb, ml, la, ps, pd, pt, kw, kh, kf, kz, ky, th, pl, md, cr, gc, lc, lr, wh, od, tg, tr, so, bd, wo, be) (nI s) (wk m) := by
  have cs : (nI s).toNatClampNeg = s := nI_clamp (by omega)
  refine ⟨pk_in s 4 hs, ?_⟩
  rw [cs, pk_us]
  refine pk_eq (min 64 (k + m)) 64 (fun g => ?_) (fun g => ⟨pk_in s 4 hs, ?_⟩)
  · have e64 : 64 * nI s = nI (64 * s) := bn_mul2 s 64
    have w := yk_rem16 (post := post) (pb := bk_past pb0 wk s k m) (pn := upd pn0 s (nI (min 64 (k + m)))) (x := wk m) hs (by
      rw [bk_uu, bk_past_hi pb0 wk s k m hk (by omega) (bk_shl (bk_past pb0 wk s k m) (64 * s) 63) (fun j => rfl)]
      have : min 64 (k + (m + 1)) = 64 := by omega
      rw [this] at hp
      exact hp) 64 0 (by omega) (by omega)
    rw [bk_shl_0] at w
    exact nm_r e64 ⟨64, w⟩
  · have e1 : 64 * nI s + nI (min 64 (k + m)) = nI (64 * s + (k + m)) := by
      rw [bn_mul2, nI_add]
      exact congrArg nI (by omega)
    have c1 : (nI (64 * s + (k + m))).toNatClampNeg = 64 * s + (k + m) := nI_clamp (by omega)
    have e2 : min 64 (k + m) + 1 = min 64 (k + (m + 1)) := by omega
    rw [cs, pk_us, e1, c1, bk_past_lo pb0 wk s k m (by omega), bk_uu, nI_1, e2]
    exact ⟨vp_in_nI (by omega) (by omega), nm_e ⟨pk_in s 4 hs, pk_in s 4 hs, nm_e hp⟩⟩
end REM
end
section
/-! unpacking, in lockstep -/
def bk_Ag (m : Nat) (pa wo : Nat → Int32) : Prop := ∀ j, j < m → ∃ v : Nat, v < 256 ∧ pa j = nI v ∧ wo j = nI v
theorem bk_Ag_up {m v : Nat} {pa wo : Nat → Int32} (h : bk_Ag m pa wo) (hv : v < 256) : bk_Ag (m + 1) (upd pa m (nI v)) (upd wo m (nI v)) := by
  intro j hj
  by_cases e : j = m
  · subst e; exact ⟨v, hv, pk_us, pk_us⟩
  · rw [pk_un e, pk_un e]; exact h j (by omega)
theorem ar_1 (a b c : Nat) (h : c ≤ a + b) : nI a + (nI b - nI c) = nI (a + b - c) := by
  rw [← pk_sub h, ← nI_add]
  grind
theorem ar_2 (m d : Nat) : nI m - 1 - nI d = nI m - nI (d + 1) := by
  rw [← nI_1]
  grind
theorem ar_3 (a b c : Nat) : nI a + (nI b - nI c) = nI (a + b) - nI c := by
  rw [← nI_add]
  grind
section UNP
variable {B : Nat} {A : Nat → List bk_E} {g : Nat → Nat} {st lf cd bg gv ob ol pb pn xp fh fl fa mk cb mi mb ml pa kb kl kc th pl md cr hc hg hi ib il it qi qc gc lc lr co ta yp ki le go la ps pd pt kw kh kf kz ky wh od tg tr so bd wo be : Nat → Int32} {px fr en ma wr : Int32}
/-- Y, once something is wrong: to the end -/
theorem yk_uend {post : SY → Prop} {s n k e : Nat} (hn : n ≤ 200) (hk : k ≤ 300) (he : 0 < e) (he2 : e < 100) (hp : post (fr, en, ma, nI e, st, lf, cd, ta, bg, kc, ob, ol, pb, pn, yp, ki, le, go, mk, cb, mb, ml, la, ps, pd, pt, kw, kh, kf, kz, ky, th, pl, md, cr, gc, lc, lr, wh, od, tg, tr, so, bd, wo, be)) : ∀ f, wY_unpack_2 post (nI s) (nI n) (f + 1) (nI k) fr en ma (nI e) st lf cd ta bg kc ob ol pb pn yp ki le go mk cb mb ml la ps pd pt kw kh kf kz ky th pl md cr gc lc lr wh od tg tr so bd wo be := by
  intro f
  exact pk_le n k (fun _ => hp) (fun _ => br_f (nI_ne0 he (by omega)) hp)
theorem yk_uend82 {post : SY → Prop} {s n k e b T J : Nat} (hn : n ≤ 200) (hk : k ≤ 250) (he : 0 < e) (he2 : e < 100) (hb : b < 256) (hT : T < 300) (hJ : J < 300) (hp : post (fr, en, ma, nI e, st, lf, cd, ta, bg, kc, ob, ol, pb, pn, yp, ki, le, go, mk, cb, mb, ml, la, ps, pd, pt, kw, kh, kf, kz, ky, th, pl, md, cr, gc, lc, lr, wh, od, tg, tr, so, bd, wo, be)) : ∀ f g, wY_unpack_82 post (wY_unpack_2 post (nI s) (nI n) (f + 1)) (nI s) (nI n) (nI b) (nI T) (g + 1) (nI k) (nI J) fr en ma (nI e) st lf cd ta bg kc ob ol pb pn yp ki le go mk cb mb ml la ps pd pt kw kh kf kz ky th pl md cr gc lc lr wh od tg tr so bd wo be := by
  intro f g
  have w : wY_unpack_200 post (wY_unpack_2 post (nI s) (nI n) (f + 1)) (nI s) (nI n) (nI k) (nI b) fr en ma (nI e) st lf cd ta bg kc ob ol pb pn yp ki le go mk cb mb ml la ps pd pt kw kh kf kz ky th pl md cr gc lc lr wh od tg tr so bd wo be :=
    pk_le b 127 (fun _ => yk_uend hn (by omega) he he2 hp f) (fun _ => nm_r (nI_1 k) (yk_uend hn (by omega) he he2 hp f))
  exact pk_le T J (fun _ => w) (fun _ => br_f (nI_ne0 he (by omega)) w)
/-- copies: the loops of both sides from a place where k0 + m bytes are known -/
theorem lk_copy {mly : Nat → Int32} {s n k0 dd T k b : Nat} (hs : s < 4) (hn : n ≤ 200) (hk0 : k0 ≤ 64) (hdd : dd < 256) (hT : T ≤ 40) (hk : k < n) (hb : 128 ≤ b) (hb2 : b < 160) (hpn : pn s = nI k0) (hby : bk_By pb) (hmb : mb (200 * s + k) = nI dd) :
    ∀ (N m : Nat) (pa wo : Nat → Int32), N ≤ T → m ≤ 200 → dd + 1 ≤ k0 + m → bk_Ag m pa wo → ∃ (e m' : Nat) (pa' wo' : Nat → Int32), (e = 0 ∨ e = 9) ∧ m' ≤ 200 ∧ bk_Ag m' pa' wo' ∧
      (∀ (post : Int32 → SX → Prop) (f : Nat), N < f → post (nI e) (nI m', st, lf, cd, bg, gv, ob, ol, pb, pn, xp, fh, fl, fa, mk, cb, mi, mb, ml, pa', kb, kl, kc, th, pl, md, cr, hc, hg, hi, ib, il, it, qi, qc, gc, lc, lr, co) → wX_copyBack_25 post (nI s) (nI T) (nI (dd + 1)) (nI k0) f (nI (T - N)) (nI m) st lf cd bg gv ob ol pb pn xp fh fl fa mk cb mi mb ml pa kb kl kc th pl md cr hc hg hi ib il it qi qc gc lc lr co) ∧
      (∀ (post : SY → Prop) (f g : Nat), N < g → (e = 9 → post (fr, en, nI m', nI 9, st, lf, cd, ta, bg, kc, ob, ol, pb, pn, yp, ki, le, go, mk, cb, mb, mly, la, ps, pd, pt, kw, kh, kf, kz, ky, th, pl, md, cr, gc, lc, lr, wh, od, tg, tr, so, bd, wo', be)) → (e = 0 → wY_unpack_2 post (nI s) (nI n) (f + 1) (nI (k + 1)) fr en (nI m') 0 st lf cd ta bg kc ob ol pb pn yp ki le go mk cb mb mly la ps pd pt kw kh kf kz ky th pl md cr gc lc lr wh od tg tr so bd wo' be) →
        wY_unpack_82 post (wY_unpack_2 post (nI s) (nI n) (f + 1)) (nI s) (nI n) (nI b) (nI T) g (nI k) (nI (T - N)) fr en (nI m) 0 st lf cd ta bg kc ob ol pb pn yp ki le go mk cb mb mly la ps pd pt kw kh kf kz ky th pl md cr gc lc lr wh od tg tr so bd wo be) := by
  have cs : (nI s).toNatClampNeg = s := nI_clamp (by omega)
  have e200 : 200 * nI s + nI k = nI (200 * s + k) := by rw [bn_mul2, nI_add]
  have c200 : (nI (200 * s + k)).toNatClampNeg = 200 * s + k := nI_clamp (by omega)
  intro N
  induction N with
  | zero =>
    intro m pa wo _ hm hd ag
    refine ⟨0, m, pa, wo, Or.inl rfl, hm, ag, ?_, ?_⟩
    · intro post f hf hp
      obtain ⟨f, rfl⟩ : ∃ f', f = f' + 1 := ⟨f - 1, by omega⟩
      exact br_t (nI_le (by omega) (by omega)) hp
    · intro post f g hg _ h0
      obtain ⟨g, rfl⟩ : ∃ g', g = g' + 1 := ⟨g - 1, by omega⟩
      exact br_t (nI_le (by omega) (by omega)) (br_f (nI_ge (a := 127) (by omega) (by omega)) (nm_r (nI_1 k) (h0 rfl)))
  | succ N ih =>
    intro m pa wo hN hm hd ag
    have eT : T - N = T - (N + 1) + 1 := by omega
    -- the byte that is meant
    have val : ∃ v : Nat, v < 256 ∧ (dd + 1 ≤ m → pa (m - (dd + 1)) = nI v ∧ wo (m - (dd + 1)) = nI v) ∧ (m < dd + 1 → pb (64 * s + (k0 + m - (dd + 1))) = nI v) := by
      by_cases z : dd + 1 ≤ m
      · obtain ⟨v, h1, h2, h3⟩ := ag (m - (dd + 1)) (by omega)
        exact ⟨v, h1, fun _ => ⟨h2, h3⟩, fun x => by omega⟩
      · obtain ⟨v, h1, h2⟩ := hby (64 * s + (k0 + m - (dd + 1)))
        exact ⟨v, h1, fun x => absurd x z, fun _ => h2⟩
    obtain ⟨v, hv, vA, vB⟩ := val
    -- Y finds it
    have yv : ∀ (post : SY → Prop) (J2 : Int32 → Int32 → Int32 → Int32 → Int32 → (Nat → Int32) → (Nat → Int32) → (Nat → Int32) → (Nat → Int32) → (Nat → Int32) → (Nat → Int32) → (Nat → Int32) → (Nat → Int32) → (Nat → Int32) → (Nat → Int32) → (Nat → Int32) → (Nat → Int32) → (Nat → Int32) → (Nat → Int32) → (Nat → Int32) → (Nat → Int32) → (Nat → Int32) → (Nat → Int32) → (Nat → Int32) → (Nat → Int32) → (Nat → Int32) → (Nat → Int32) → (Nat → Int32) → (Nat → Int32) → (Nat → Int32) → (Nat → Int32) → (Nat → Int32) → (Nat → Int32) → (Nat → Int32) → (Nat → Int32) → (Nat → Int32) → (Nat → Int32) → (Nat → Int32) → (Nat → Int32) → (Nat → Int32) → (Nat → Int32) → (Nat → Int32) → (Nat → Int32) → (Nat → Int32) → (Nat → Int32) → (Nat → Int32) → (Nat → Int32) → Prop) (J82 : Int32 → Int32 → Int32 → Int32 → Int32 → Int32 → (Nat → Int32) → (Nat → Int32) → (Nat → Int32) → (Nat → Int32) → (Nat → Int32) → (Nat → Int32) → (Nat → Int32) → (Nat → Int32) → (Nat → Int32) → (Nat → Int32) → (Nat → Int32) → (Nat → Int32) → (Nat → Int32) → (Nat → Int32) → (Nat → Int32) → (Nat → Int32) → (Nat → Int32) → (Nat → Int32) → (Nat → Int32) → (Nat → Int32) → (Nat → Int32) → (Nat → Int32) → (Nat → Int32) → (Nat → Int32) → (Nat → Int32) → (Nat → Int32) → (Nat → Int32) → (Nat → Int32) → (Nat → Int32) → (Nat → Int32) → (Nat → Int32) → (Nat → Int32) → (Nat → Int32) → (Nat → Int32) → (Nat → Int32) → (Nat → Int32) → (Nat → Int32) → (Nat → Int32) → (Nat → Int32) → (Nat → Int32) → (Nat → Int32) → (Nat → Int32) → Prop) (x5 x6 : Int32), wY_unpack_164 post J2 J82 (nI s) (nI n) (nI k) (nI b) x5 x6 (nI v) fr en (nI m) 0 st lf cd ta bg kc ob ol pb pn yp ki le go mk cb mb mly la ps pd pt kw kh kf kz ky th pl md cr gc lc lr wh od tg tr so bd wo be → wY_unpack_115 post J2 J82 (nI s) (nI n) (nI k) (nI b) x5 x6 fr en (nI m) 0 st lf cd ta bg kc ob ol pb pn yp ki le go mk cb mb mly la ps pd pt kw kh kf kz ky th pl md cr gc lc lr wh od tg tr so bd wo be := by
      intro post J2 J82 x5 x6 hp
      refine br_t (nI_le (a := 128) (by omega) (by omega)) ⟨by rw [e200]; exact vp_in_nI (by omega) (by omega), ?_⟩
      rw [e200, c200, hmb]
      refine nm_r (ar_2 m dd) ⟨pk_in s 4 hs, ?_⟩
      rw [cs, hpn]
      refine nm_r (ar_1 k0 m (dd + 1) hd) ?_
      by_cases z : dd + 1 ≤ m
      · have e1 : nI m - nI (dd + 1) = nI (m - (dd + 1)) := pk_sub z
        have c1 : (nI (m - (dd + 1))).toNatClampNeg = m - (dd + 1) := nI_clamp (by omega)
        rw [e1, c1, (vA z).2]
        exact br_f (nI_pos (by omega)) ⟨vp_in_nI (by omega) (by omega), hp⟩
      · have e2 : 64 * nI s + nI (k0 + m - (dd + 1)) = nI (64 * s + (k0 + m - (dd + 1))) := by rw [bn_mul2, nI_add]
        have c2 : (nI (64 * s + (k0 + m - (dd + 1)))).toNatClampNeg = 64 * s + (k0 + m - (dd + 1)) := nI_clamp (by omega)
        rw [e2, c2, vB (by omega)]
        exact br_t (pk_sneg (by omega) (by omega)) (br_f (nI_pos (by omega)) ⟨vp_in_nI (by omega) (by omega), hp⟩)
    by_cases m2 : m = 200
    · subst m2
      refine ⟨9, 200, pa, wo, Or.inr rfl, Nat.le_refl _, ag, ?_, ?_⟩
      · intro post f hf hp
        obtain ⟨f, rfl⟩ : ∃ f', f = f' + 1 := ⟨f - 1, by omega⟩
        exact br_f (nI_ge (by omega) (by omega)) (br_t rfl hp)
      · intro post f g hg h9 _
        obtain ⟨g, rfl⟩ : ∃ g', g = g' + 1 + 1 := ⟨g - 2, by omega⟩
        refine br_f (nI_ge (by omega) (by omega)) (br_t rfl (br_t (nI_le (a := 128) (by omega) (by omega)) (yv _ _ _ _ _ ?_)))
        refine br_t (nI_le (a := 128) (by omega) (by omega)) (br_t (nI_pos' (by omega)) ?_)
        refine br_t rfl (br_t rfl (br_f (by decide) (nm_r (nI_1 _) ?_)))
        exact yk_uend82 (e := 9) (ma := nI 200) (wo := wo) hn (by omega) (by omega) (by omega) (by omega) (by omega) (by omega) (h9 rfl) f g
    · obtain ⟨e, m', pa', wo', he, hm', ag', x1, y1⟩ := ih (m + 1) (upd pa m (nI v)) (upd wo m (nI v)) (by omega) (by omega) (by omega) (bk_Ag_up ag hv)
      refine ⟨e, m', pa', wo', he, hm', ag', ?_, ?_⟩
      · intro post f hf hp
        obtain ⟨f, rfl⟩ : ∃ f', f = f' + 1 := ⟨f - 1, by omega⟩
        have cm : (nI m).toNatClampNeg = m := nI_clamp (by omega)
        have nx := x1 post f (by omega) hp
        rw [eT] at nx
        have fin : ∀ z : Int32, z = nI v → wX_copyBack_90 post (wX_copyBack_25 post (nI s) (nI T) (nI (dd + 1)) (nI k0) f) (nI s) (nI T) (nI (dd + 1)) (nI k0) (nI (T - (N + 1))) z (nI m) (nI m) st lf cd bg gv ob ol pb pn xp fh fl fa mk cb mi mb ml pa kb kl kc th pl md cr hc hg hi ib il it qi qc gc lc lr co := by
          intro z hz
          refine ⟨vp_in_nI (by omega) (by omega), ?_⟩
          rw [cm, hz]
          exact nm_e (nm_r (nI_1 m) (nm_r (nI_1 _) nx))
        refine br_f (nI_ge (by omega) (by omega)) (br_f (fun x => m2 ((nI_eq (a := m) (b := 200) (by omega) (by omega)).mp x)) (nm_e ?_))
        by_cases z : dd + 1 ≤ m
        · have e1 : nI m - nI (dd + 1) = nI (m - (dd + 1)) := pk_sub z
          have c1 : (nI (m - (dd + 1))).toNatClampNeg = m - (dd + 1) := nI_clamp (by omega)
          rw [e1, c1]
          exact br_f (nI_pos (by omega)) ⟨vp_in_nI (by omega) (by omega), fin _ (vA z).1⟩
        · have e2 : nI s * 64 + nI k0 + (nI m - nI (dd + 1)) = nI (64 * s + (k0 + m - (dd + 1))) := by
            rw [bn_mul, nI_add, ar_1 _ _ _ (by omega)]
            exact congrArg nI (by omega)
          have c2 : (nI (64 * s + (k0 + m - (dd + 1)))).toNatClampNeg = 64 * s + (k0 + m - (dd + 1)) := nI_clamp (by omega)
          rw [e2, c2]
          exact br_t (pk_sneg (by omega) (by omega)) ⟨vp_in_nI (by omega) (by omega), fin _ (vB (by omega))⟩
      · intro post f g hg h9 h0
        obtain ⟨g, rfl⟩ : ∃ g', g = g' + 1 := ⟨g - 1, by omega⟩
        have cm : (nI m).toNatClampNeg = m := nI_clamp (by omega)
        have nx := y1 post f g (by omega) h9 h0
        rw [eT] at nx
        refine br_f (nI_ge (by omega) (by omega)) (br_t rfl (br_t (nI_le (a := 128) (by omega) (by omega)) (yv _ _ _ _ _ ?_)))
        refine br_t (nI_le (a := 128) (by omega) (by omega)) (br_t (nI_pos' (by omega)) ?_)
        refine br_f (fun x => m2 ((nI_eq (a := m) (b := 200) (by omega) (by omega)).mp x)) (br_t (by decide) ⟨vp_in_nI (by omega) (by omega), ?_⟩)
        rw [cm]
        exact nm_e (nm_r (nI_1 m) (nm_r (nI_1 _) nx))
end UNP
end
section
section UNP2
variable {B : Nat} {A : Nat → List bk_E} {g : Nat → Nat} {st lf cd bg gv ob ol pb pn xp fh fl fa mk cb mi mb ml pa kb kl kc th pl md cr hc hg hi ib il it qi qc gc lc lr co ta yp ki le go la ps pd pt kw kh kf kz ky wh od tg tr so bd wo be : Nat → Int32} {px fr en ma wr : Int32}
theorem lk_unp {mly : Nat → Int32} {s n k0 : Nat} {w : Nat → Nat} (hs : s < 4) (hn : n ≤ 200) (hk0 : k0 ≤ 64) (hpn : pn s = nI k0) (hby : bk_By pb) (hw : ∀ j, j < n → mb (200 * s + j) = nI (w j)) (hw2 : ∀ j, w j < 256) :
    ∀ (N m : Nat) (pa wo : Nat → Int32) (c : Nat), N ≤ n → m ≤ 200 → c ≤ 128 → bk_Ag m pa wo → ∃ (e m' : Nat) (pa' wo' : Nat → Int32), (e = 0 ∨ e = 7 ∨ e = 9) ∧ m' ≤ 200 ∧ bk_Ag m' pa' wo' ∧
      (∀ (post : Int32 → SX → Prop) (f : Nat), N < f → post (nI e) (nI m', st, lf, cd, bg, gv, ob, ol, pb, pn, xp, fh, fl, fa, mk, cb, mi, mb, ml, pa', kb, kl, kc, th, pl, md, cr, hc, hg, hi, ib, il, it, qi, qc, gc, lc, lr, co) → wX_unpack_20 post (nI s) (nI n) f (nI c) 0 (nI (n - N)) (nI m) st lf cd bg gv ob ol pb pn xp fh fl fa mk cb mi mb ml pa kb kl kc th pl md cr hc hg hi ib il it qi qc gc lc lr co) ∧
      (c = 0 → ∀ (post : SY → Prop) (f : Nat), N < f → post (fr, en, nI m', nI e, st, lf, cd, ta, bg, kc, ob, ol, pb, pn, yp, ki, le, go, mk, cb, mb, mly, la, ps, pd, pt, kw, kh, kf, kz, ky, th, pl, md, cr, gc, lc, lr, wh, od, tg, tr, so, bd, wo', be) → wY_unpack_2 post (nI s) (nI n) f (nI (n - N)) fr en (nI m) 0 st lf cd ta bg kc ob ol pb pn yp ki le go mk cb mb mly la ps pd pt kw kh kf kz ky th pl md cr gc lc lr wh od tg tr so bd wo be) ∧
      (∀ (post : SY → Prop) (f g b T J : Nat), b < 128 → T = J + c → T ≤ 200 → N < f → c + 1 < g → post (fr, en, nI m', nI e, st, lf, cd, ta, bg, kc, ob, ol, pb, pn, yp, ki, le, go, mk, cb, mb, mly, la, ps, pd, pt, kw, kh, kf, kz, ky, th, pl, md, cr, gc, lc, lr, wh, od, tg, tr, so, bd, wo', be) → wY_unpack_82 post (wY_unpack_2 post (nI s) (nI n) f) (nI s) (nI n) (nI b) (nI T) g (nI (n - N)) (nI J) fr en (nI m) 0 st lf cd ta bg kc ob ol pb pn yp ki le go mk cb mb mly la ps pd pt kw kh kf kz ky th pl md cr gc lc lr wh od tg tr so bd wo be) := by
  -- with nothing left to take, the inner loop's end is the outer loop's head
  have c0 : ∀ (N m e m' : Nat) (wo wo' : Nat → Int32), (∀ (post : SY → Prop) (f : Nat), N < f → post (fr, en, nI m', nI e, st, lf, cd, ta, bg, kc, ob, ol, pb, pn, yp, ki, le, go, mk, cb, mb, mly, la, ps, pd, pt, kw, kh, kf, kz, ky, th, pl, md, cr, gc, lc, lr, wh, od, tg, tr, so, bd, wo', be) → wY_unpack_2 post (nI s) (nI n) f (nI (n - N)) fr en (nI m) 0 st lf cd ta bg kc ob ol pb pn yp ki le go mk cb mb mly la ps pd pt kw kh kf kz ky th pl md cr gc lc lr wh od tg tr so bd wo be) →
      ∀ (post : SY → Prop) (f g b T J : Nat), b < 128 → T = J + 0 → T ≤ 200 → N < f → 0 + 1 < g → post (fr, en, nI m', nI e, st, lf, cd, ta, bg, kc, ob, ol, pb, pn, yp, ki, le, go, mk, cb, mb, mly, la, ps, pd, pt, kw, kh, kf, kz, ky, th, pl, md, cr, gc, lc, lr, wh, od, tg, tr, so, bd, wo', be) → wY_unpack_82 post (wY_unpack_2 post (nI s) (nI n) f) (nI s) (nI n) (nI b) (nI T) g (nI (n - N)) (nI J) fr en (nI m) 0 st lf cd ta bg kc ob ol pb pn yp ki le go mk cb mb mly la ps pd pt kw kh kf kz ky th pl md cr gc lc lr wh od tg tr so bd wo be := by
    intro N m e m' wo wo' y1 post f g b T J hb hT hT2 hf hg hp
    obtain ⟨g, rfl⟩ : ∃ g', g = g' + 1 := ⟨g - 1, by omega⟩
    exact br_t (nI_le (by omega) (by omega)) (br_t (nI_le (b := 127) (by omega) (by omega)) (y1 post f hf hp))
  intro N
  induction N using Nat.strongRecOn with
  | ind N ih =>
  intro m pa wo c hN hm hc128 ag
  cases N with
  | zero =>
    by_cases cz : c = 0
    · subst cz
      have y1 : ∀ (post : SY → Prop) (f : Nat), 0 < f → post (fr, en, nI m, nI 0, st, lf, cd, ta, bg, kc, ob, ol, pb, pn, yp, ki, le, go, mk, cb, mb, mly, la, ps, pd, pt, kw, kh, kf, kz, ky, th, pl, md, cr, gc, lc, lr, wh, od, tg, tr, so, bd, wo, be) → wY_unpack_2 post (nI s) (nI n) f (nI (n - 0)) fr en (nI m) 0 st lf cd ta bg kc ob ol pb pn yp ki le go mk cb mb mly la ps pd pt kw kh kf kz ky th pl md cr gc lc lr wh od tg tr so bd wo be := by
        intro post f hf hp
        obtain ⟨f, rfl⟩ : ∃ f', f = f' + 1 := ⟨f - 1, by omega⟩
        exact br_t (nI_le (by omega) (by omega)) hp
      refine ⟨0, m, pa, wo, Or.inl rfl, hm, ag, ?_, fun _ => y1, c0 0 m 0 m wo wo y1⟩
      intro post f hf hp
      obtain ⟨f, rfl⟩ : ∃ f', f = f' + 1 := ⟨f - 1, by omega⟩
      exact br_t (nI_le (by omega) (by omega)) (br_f (by decide) (br_t (by decide) hp))
    · refine ⟨7, m, pa, wo, Or.inr (Or.inl rfl), hm, ag, ?_, fun z => absurd z cz, ?_⟩
      · intro post f hf hp
        obtain ⟨f, rfl⟩ : ∃ f', f = f' + 1 := ⟨f - 1, by omega⟩
        exact br_t (nI_le (by omega) (by omega)) (br_t (nI_lt (a := 0) (by omega) (by omega)) hp)
      · intro post f g b T J hb hT hT2 hf hg hp
        obtain ⟨f, rfl⟩ : ∃ f', f = f' + 1 := ⟨f - 1, by omega⟩
        obtain ⟨g, rfl⟩ : ∃ g', g = g' + 1 + 1 := ⟨g - 2, by omega⟩
        have nb : ¬ (128 : Int32) ≤ nI b := nI_ge (b := 128) hb (by omega)
        have o := yk_uend82 (e := 7) (ma := nI m) (wo := wo) (s := s) (n := n) (k := n - 0 + 1) (b := b) (T := T) (J := J + 1) (post := post) hn (by omega) (by omega) (by omega) (by omega) (by omega) (by omega) hp f g
        refine br_f (nI_ge (by omega) (by omega)) (br_t rfl (br_f nb (br_t (by rw [Nat.sub_zero]) (br_f nb (br_t (by rw [Nat.sub_zero]; exact nI_le (by omega) (by omega)) (br_f nb (nm_r (nI_1 _) (br_t (by decide) ?_))))))))
        exact br_c (fun _ => br_f (by decide) (br_f (by decide) (nm_r (nI_1 _) o))) (fun _ => br_f (by decide) (nm_r (nI_1 _) o))
  | succ M =>
    have hk : n - (M + 1) < n := by omega
    have ek : n - M = n - (M + 1) + 1 := by omega
    generalize hk0' : n - (M + 1) = k at *
    have hwk := hw k hk
    have hv := hw2 k
    generalize hv0 : w k = v at *
    have ex : nI s * 200 + nI k = nI (200 * s + k) := by rw [bn_mul, nI_add, Nat.mul_comm]
    have ey : 200 * nI s + nI k = nI (200 * s + k) := by rw [bn_mul2, nI_add]
    have ck : (nI (200 * s + k)).toNatClampNeg = 200 * s + k := nI_clamp (by omega)
    have i8 : vp_in (nI (200 * s + k)) 800 := vp_in_nI (by omega) (by omega)
    have nk : ¬ nI n ≤ nI k := nI_ge hk (by omega)
    by_cases cz : c = 0
    rotate_left
    · -- a byte that is taken as it is
      have cm : (nI m).toNatClampNeg = m := nI_clamp (by omega)
      by_cases m2 : m = 200
      · subst m2
        refine ⟨9, 200, pa, wo, Or.inr (Or.inr rfl), Nat.le_refl _, ag, ?_, fun z => absurd z cz, ?_⟩
        · intro post f hf hp
          obtain ⟨f, rfl⟩ : ∃ f', f = f' + 1 := ⟨f - 1, by omega⟩
          refine br_f nk ?_
          rw [ex, ck, hwk]
          exact ⟨i8, nm_e (br_f (nI_nle (by omega) (by omega)) (br_t rfl hp))⟩
        · intro post f g b T J hb hT hT2 hf hg hp
          obtain ⟨f, rfl⟩ : ∃ f', f = f' + 1 := ⟨f - 1, by omega⟩
          obtain ⟨g, rfl⟩ : ∃ g', g = g' + 1 + 1 := ⟨g - 2, by omega⟩
          have nb : ¬ (128 : Int32) ≤ nI b := nI_ge (b := 128) hb (by omega)
          have o := yk_uend82 (e := 9) (ma := nI 200) (wo := wo) (s := s) (n := n) (k := k + 1) (b := b) (T := T) (J := J + 1) (post := post) hn (by omega) (by omega) (by omega) (by omega) (by omega) (by omega) hp f g
          refine br_f (nI_ge (by omega) (by omega)) (br_t rfl (br_f nb (br_f (fun z => by have := (nI_eq (by omega) (by omega)).mp z; omega) (br_f nb (br_f nk ?_)))))
          rw [ey, ck, hwk]
          exact ⟨i8, br_f nb (nm_r (nI_1 k) (br_t (nI_pos' (by omega)) (br_t rfl (br_t rfl (br_f (by decide) (nm_r (nI_1 J) o))))))⟩
      · obtain ⟨e, m', pa', wo', he, hm', ag', x1, _, y2⟩ := ih M (by omega) (m + 1) (upd pa m (nI v)) (upd wo m (nI v)) (c - 1) (by omega) (by omega) (by omega) (bk_Ag_up ag hv)
        rw [ek] at x1 y2
        refine ⟨e, m', pa', wo', he, hm', ag', ?_, fun z => absurd z cz, ?_⟩
        · intro post f hf hp
          obtain ⟨f, rfl⟩ : ∃ f', f = f' + 1 := ⟨f - 1, by omega⟩
          have xx := x1 post f (by omega) hp
          refine br_f nk ?_
          rw [ex, ck, hwk]
          refine ⟨i8, nm_e (br_f (nI_nle (by omega) (by omega)) (br_f (fun x => m2 ((nI_eq (a := m) (b := 200) (by omega) (by omega)).mp x)) ⟨vp_in_nI (by omega) (by omega), ?_⟩))⟩
          rw [cm]
          exact nm_e (nm_r (nI_1 m) (nm_r (bn_m1 c (by omega)) (nm_r (nI_1 k) xx)))
        · intro post f g b T J hb hT hT2 hf hg hp
          obtain ⟨g, rfl⟩ : ∃ g', g = g' + 1 := ⟨g - 1, by omega⟩
          have nb : ¬ (128 : Int32) ≤ nI b := nI_ge (b := 128) hb (by omega)
          have yy := y2 post f g b T (J + 1) hb (by omega) hT2 (by omega) (by omega) hp
          refine br_f (nI_ge (by omega) (by omega)) (br_t rfl (br_f nb (br_f (fun z => by have := (nI_eq (by omega) (by omega)).mp z; omega) (br_f nb (br_f nk ?_)))))
          rw [ey, ck, hwk]
          refine ⟨i8, br_f nb (nm_r (nI_1 k) (br_t (nI_pos' (by omega)) (br_f (fun x => m2 ((nI_eq (a := m) (b := 200) (by omega) (by omega)).mp x)) (br_t (by decide) ⟨vp_in_nI (by omega) (by omega), ?_⟩))))⟩
          rw [cm]
          exact nm_e (nm_r (nI_1 m) (nm_r (nI_1 J) yy))
    · subst cz
      -- a code
      by_cases lit : v < 128
      · obtain ⟨e, m', pa', wo', he, hm', ag', x1, _, y2⟩ := ih M (by omega) m pa wo (v + 1) (by omega) hm (by omega) ag
        rw [ek] at x1 y2
        have y1 : ∀ (post : SY → Prop) (f : Nat), M + 1 < f → post (fr, en, nI m', nI e, st, lf, cd, ta, bg, kc, ob, ol, pb, pn, yp, ki, le, go, mk, cb, mb, mly, la, ps, pd, pt, kw, kh, kf, kz, ky, th, pl, md, cr, gc, lc, lr, wh, od, tg, tr, so, bd, wo', be) → wY_unpack_2 post (nI s) (nI n) f (nI k) fr en (nI m) 0 st lf cd ta bg kc ob ol pb pn yp ki le go mk cb mb mly la ps pd pt kw kh kf kz ky th pl md cr gc lc lr wh od tg tr so bd wo be := by
          intro post f hf hp
          obtain ⟨f, rfl⟩ : ∃ f', f = f' + 1 := ⟨f - 1, by omega⟩
          have yy := y2 post f (v + 3) v (v + 1) 0 lit (by omega) (by omega) (by omega) (by omega) hp
          refine br_f nk (br_t rfl ?_)
          rw [ey, ck, hwk]
          refine ⟨i8, nm_e (br_f (nI_ge (b := 128) lit (by omega)) ?_)⟩
          rw [nI_1 v]
          exact nm_r (nI_1 k) (br_f (nI_nlt (a := 159) (by omega) (by omega)) (br_t (nI_le (b := 127) (by omega) (by omega)) ⟨_, yy⟩))
        refine ⟨e, m', pa', wo', he, hm', ag', ?_, fun _ => y1, ?_⟩
        · intro post f hf hp
          obtain ⟨f, rfl⟩ : ∃ f', f = f' + 1 := ⟨f - 1, by omega⟩
          have xx := x1 post f (by omega) hp
          refine br_f nk ?_
          rw [ex, ck, hwk]
          exact ⟨i8, nm_e (br_t (by decide) (br_t (by decide) (br_f (nI_ge (b := 128) lit (by omega)) (nm_r (nI_1 v) (nm_r (nI_1 k) xx)))))⟩
        · have z := c0 (M + 1) m e m' wo wo' (by rw [hk0']; exact y1)
          rw [hk0'] at z
          exact z
      · have e126 : nI v - 126 = nI (v - 126) := pk_sub (a := v) (b := 126) (by omega)
        have x126 : nI v - 128 + 2 = nI (v - 126) := by
          have a1 : nI v - 128 = nI (v - 128) := pk_sub (a := v) (b := 128) (by omega)
          have a2 : nI (v - 128) + 2 = nI (v - 128 + 2) := nI_add (v - 128) 2
          rw [a1, a2]
          exact congrArg nI (by omega)
        have hv128 : (128 : Int32) ≤ nI v := nI_le (a := 128) (by omega) (by omega)
        -- Y's way into the code
        have yin : ∀ (post : SY → Prop) (f : Nat), wY_unpack_48 post (wY_unpack_2 post (nI s) (nI n) f) (nI s) (nI n) (nI k) (nI v) (nI (v - 126)) fr en (nI m) 0 st lf cd ta bg kc ob ol pb pn yp ki le go mk cb mb mly la ps pd pt kw kh kf kz ky th pl md cr gc lc lr wh od tg tr so bd wo be → wY_unpack_2 post (nI s) (nI n) (f + 1) (nI k) fr en (nI m) 0 st lf cd ta bg kc ob ol pb pn yp ki le go mk cb mb mly la ps pd pt kw kh kf kz ky th pl md cr gc lc lr wh od tg tr so bd wo be := by
          intro post f hp
          refine br_f nk (br_t rfl ?_)
          rw [ey, ck, hwk]
          refine ⟨i8, nm_e (br_t hv128 ?_)⟩
          rw [e126]
          exact hp
        by_cases bad : 160 ≤ v
        · have y1 : ∀ (post : SY → Prop) (f : Nat), M + 1 < f → post (fr, en, nI m, nI 7, st, lf, cd, ta, bg, kc, ob, ol, pb, pn, yp, ki, le, go, mk, cb, mb, mly, la, ps, pd, pt, kw, kh, kf, kz, ky, th, pl, md, cr, gc, lc, lr, wh, od, tg, tr, so, bd, wo, be) → wY_unpack_2 post (nI s) (nI n) f (nI k) fr en (nI m) 0 st lf cd ta bg kc ob ol pb pn yp ki le go mk cb mb mly la ps pd pt kw kh kf kz ky th pl md cr gc lc lr wh od tg tr so bd wo be := by
            intro post f hf hp
            obtain ⟨f, rfl⟩ : ∃ f', f = f' + 1 + 1 := ⟨f - 2, by omega⟩
            refine yin post (f + 1) (nm_r (nI_1 k) (br_t (nI_lt (a := 159) (by omega) (by omega)) ⟨1, ?_⟩))
            exact yk_uend82 (e := 7) (ma := nI m) (wo := wo) (J := 0) hn (by omega) (by omega) (by omega) hv (by omega) (by omega) hp f 0
          refine ⟨7, m, pa, wo, Or.inr (Or.inl rfl), hm, ag, ?_, fun _ => y1, ?_⟩
          · intro post f hf hp
            obtain ⟨f, rfl⟩ : ∃ f', f = f' + 1 := ⟨f - 1, by omega⟩
            refine br_f nk ?_
            rw [ex, ck, hwk]
            exact ⟨i8, nm_e (br_t (by decide) (br_t (by decide) (br_t hv128 (br_t (nI_le (a := 160) (by omega) (by omega)) hp))))⟩
          · have z := c0 (M + 1) m 7 m wo wo (by rw [hk0']; exact y1)
            rw [hk0'] at z
            exact z
        · -- X's way to the byte behind
          have xin : ∀ (post : Int32 → SX → Prop) (f : Nat), wX_unpack_20 post (nI s) (nI n) f (nI 0) (nI (v - 126)) (nI (k + 1)) (nI m) st lf cd bg gv ob ol pb pn xp fh fl fa mk cb mi mb ml pa kb kl kc th pl md cr hc hg hi ib il it qi qc gc lc lr co → wX_unpack_20 post (nI s) (nI n) (f + 1) (nI 0) 0 (nI k) (nI m) st lf cd bg gv ob ol pb pn xp fh fl fa mk cb mi mb ml pa kb kl kc th pl md cr hc hg hi ib il it qi qc gc lc lr co := by
            intro post f hp
            refine br_f nk ?_
            rw [ex, ck, hwk]
            exact ⟨i8, nm_e (br_t (by decide) (br_t (by decide) (br_t hv128 (br_f (nI_ge (b := 160) (by omega) (by omega)) (nm_r x126 (nm_r (nI_1 k) hp))))))⟩
          have n159 : ¬ (159 : Int32) < nI v := nI_nlt (a := 159) (by omega) (by omega)
          have n127 : ¬ nI v ≤ (127 : Int32) := nI_ge (a := 127) (by omega) (by omega)
          by_cases last : k + 1 = n
          · have y1 : ∀ (post : SY → Prop) (f : Nat), M + 1 < f → post (fr, en, nI m, nI 7, st, lf, cd, ta, bg, kc, ob, ol, pb, pn, yp, ki, le, go, mk, cb, mb, mly, la, ps, pd, pt, kw, kh, kf, kz, ky, th, pl, md, cr, gc, lc, lr, wh, od, tg, tr, so, bd, wo, be) → wY_unpack_2 post (nI s) (nI n) f (nI k) fr en (nI m) 0 st lf cd ta bg kc ob ol pb pn yp ki le go mk cb mb mly la ps pd pt kw kh kf kz ky th pl md cr gc lc lr wh od tg tr so bd wo be := by
              intro post f hf hp
              obtain ⟨f, rfl⟩ : ∃ f', f = f' + 1 + 1 := ⟨f - 2, by omega⟩
              refine yin post (f + 1) (nm_r (nI_1 k) (br_f n159 (br_f n127 (br_t (by rw [last]) ⟨1, ?_⟩))))
              exact yk_uend82 (e := 7) (ma := nI m) (wo := wo) (J := 0) hn (by omega) (by omega) (by omega) hv (by omega) (by omega) hp f 0
            refine ⟨7, m, pa, wo, Or.inr (Or.inl rfl), hm, ag, ?_, fun _ => y1, ?_⟩
            · intro post f hf hp
              obtain ⟨f, rfl⟩ : ∃ f', f = f' + 1 + 1 := ⟨f - 2, by omega⟩
              refine xin post (f + 1) (br_t (by rw [last]; exact nI_le (Nat.le_refl _) (by omega)) (br_f (by decide) (br_f (nI_nle (by omega) (by omega)) hp)))
            · have z := c0 (M + 1) m 7 m wo wo (by rw [hk0']; exact y1)
              rw [hk0'] at z
              exact z
          · have hk1 : k + 1 < n := by omega
            have hd := hw2 (k + 1)
            have hwd := hw (k + 1) hk1
            generalize hd0 : w (k + 1) = dd at *
            have cs : (nI s).toNatClampNeg = s := nI_clamp (by omega)
            have ex1 : nI s * 200 + nI (k + 1) = nI (200 * s + (k + 1)) := by rw [bn_mul, nI_add, Nat.mul_comm]
            have ey1 : 200 * nI s + nI (k + 1) = nI (200 * s + (k + 1)) := by rw [bn_mul2, nI_add]
            have ck1 : (nI (200 * s + (k + 1))).toNatClampNeg = 200 * s + (k + 1) := nI_clamp (by omega)
            have nkn : ¬ nI (k + 1) = nI n := fun z => by have := (nI_eq (by omega) (by omega)).mp z; omega
            -- X's way to copyBack
            have xin2 : ∀ (post : Int32 → SX → Prop) (f : Nat), wpX_copyBack (fun r u => match u with | (px, st, lf, cd, bg, gv, ob, ol, pb, pn, xp, fh, fl, fa, mk, cb, mi, mb, ml, pa, kb, kl, kc, th, pl, md, cr, hc, hg, hi, ib, il, it, qi, qc, gc, lc, lr, co) => ((r = 0 → (∀ y, y = nI (k + 1) + 1 → wX_unpack_20 post (nI s) (nI n) f (nI 0) 0 y px st lf cd bg gv ob ol pb pn xp fh fl fa mk cb mi mb ml pa kb kl kc th pl md cr hc hg hi ib il it qi qc gc lc lr co)) ∧ (¬ r = 0 → post r (px, st, lf, cd, bg, gv, ob, ol, pb, pn, xp, fh, fl, fa, mk, cb, mi, mb, ml, pa, kb, kl, kc, th, pl, md, cr, hc, hg, hi, ib, il, it, qi, qc, gc, lc, lr, co)))) (nI m, st, lf, cd, bg, gv, ob, ol, pb, pn, xp, fh, fl, fa, mk, cb, mi, mb, ml, pa, kb, kl, kc, th, pl, md, cr, hc, hg, hi, ib, il, it, qi, qc, gc, lc, lr, co) (nI s) (nI (v - 126)) (nI (dd + 1)) → wX_unpack_20 post (nI s) (nI n) (f + 1 + 1) (nI 0) 0 (nI k) (nI m) st lf cd bg gv ob ol pb pn xp fh fl fa mk cb mi mb ml pa kb kl kc th pl md cr hc hg hi ib il it qi qc gc lc lr co := by
              intro post f hp
              refine xin post (f + 1) (br_f (nI_ge hk1 (by omega)) ?_)
              rw [ex1, ck1, hwd]
              refine ⟨vp_in_nI (by omega) (by omega), nm_e (br_t (by decide) (br_f (nI_nle (by omega) (by omega)) ?_))⟩
              rw [nI_1 dd]
              exact hp
            by_cases far : dd + 1 ≤ k0 + m
            · obtain ⟨e1, m1, pa1, wo1, he1, hm1, ag1, x1, y1⟩ := lk_copy (n := n) (k := k + 1) (b := v) (T := v - 126) hs hn hk0 hd (by omega) hk1 (by omega) (by omega) hpn hby hwd (v - 126) m pa wo (Nat.le_refl _) hm far ag
              rw [Nat.sub_self] at x1 y1
              rcases he1 with rfl | rfl
              · obtain ⟨e, m', pa', wo', he, hm', ag', x3, y3, _⟩ := ih (M - 1) (by omega) m1 pa1 wo1 0 (by omega) hm1 (by omega) ag1
                have ek2 : n - (M - 1) = k + 1 + 1 := by omega
                rw [ek2] at x3 y3
                have y0 : ∀ (post : SY → Prop) (f : Nat), M + 1 < f → post (fr, en, nI m', nI e, st, lf, cd, ta, bg, kc, ob, ol, pb, pn, yp, ki, le, go, mk, cb, mb, mly, la, ps, pd, pt, kw, kh, kf, kz, ky, th, pl, md, cr, gc, lc, lr, wh, od, tg, tr, so, bd, wo', be) → wY_unpack_2 post (nI s) (nI n) f (nI k) fr en (nI m) 0 st lf cd ta bg kc ob ol pb pn yp ki le go mk cb mb mly la ps pd pt kw kh kf kz ky th pl md cr gc lc lr wh od tg tr so bd wo be := by
                  intro post f hf hp
                  obtain ⟨f, rfl⟩ : ∃ f', f = f' + 1 + 1 := ⟨f - 2, by omega⟩
                  refine yin post (f + 1) (nm_r (nI_1 k) (br_f n159 (br_f n127 (br_f nkn ⟨v - 126 + 1, ?_⟩))))
                  exact y1 post f _ (by omega) (fun z => absurd z (by decide)) (fun _ => y3 rfl post (f + 1) (by omega) hp)
                refine ⟨e, m', pa', wo', he, hm', ag', ?_, fun _ => y0, ?_⟩
                · intro post f hf hp
                  obtain ⟨f, rfl⟩ : ∃ f', f = f' + 1 + 1 := ⟨f - 2, by omega⟩
                  refine xin2 post f ⟨pk_in s 4 hs, ?_⟩
                  rw [cs, hpn]
                  refine nm_e ?_
                  rw [nI_add]
                  refine br_t (nI_le far (by omega)) ⟨v - 126 + 1, x1 _ _ (by omega) (br_t rfl (nm_r (nI_1 _) ?_))⟩
                  exact x3 post f (by omega) hp
                · have z := c0 (M + 1) m e m' wo wo' (by rw [hk0']; exact y0)
                  rw [hk0'] at z
                  exact z
              · have y0 : ∀ (post : SY → Prop) (f : Nat), M + 1 < f → post (fr, en, nI m1, nI 9, st, lf, cd, ta, bg, kc, ob, ol, pb, pn, yp, ki, le, go, mk, cb, mb, mly, la, ps, pd, pt, kw, kh, kf, kz, ky, th, pl, md, cr, gc, lc, lr, wh, od, tg, tr, so, bd, wo1, be) → wY_unpack_2 post (nI s) (nI n) f (nI k) fr en (nI m) 0 st lf cd ta bg kc ob ol pb pn yp ki le go mk cb mb mly la ps pd pt kw kh kf kz ky th pl md cr gc lc lr wh od tg tr so bd wo be := by
                  intro post f hf hp
                  obtain ⟨f, rfl⟩ : ∃ f', f = f' + 1 + 1 := ⟨f - 2, by omega⟩
                  refine yin post (f + 1) (nm_r (nI_1 k) (br_f n159 (br_f n127 (br_f nkn ⟨v - 126 + 1, ?_⟩))))
                  exact y1 post f _ (by omega) (fun _ => hp) (fun z => absurd z (by decide))
                refine ⟨9, m1, pa1, wo1, Or.inr (Or.inr rfl), hm1, ag1, ?_, fun _ => y0, ?_⟩
                · intro post f hf hp
                  obtain ⟨f, rfl⟩ : ∃ f', f = f' + 1 + 1 := ⟨f - 2, by omega⟩
                  refine xin2 post f ⟨pk_in s 4 hs, ?_⟩
                  rw [cs, hpn]
                  refine nm_e ?_
                  rw [nI_add]
                  exact br_t (nI_le far (by omega)) ⟨v - 126 + 1, x1 _ _ (by omega) (br_f (by decide) hp)⟩
                · have z := c0 (M + 1) m 9 m1 wo wo1 (by rw [hk0']; exact y0)
                  rw [hk0'] at z
                  exact z
            · have y0 : ∀ (post : SY → Prop) (f : Nat), M + 1 < f → post (fr, en, nI m, nI 7, st, lf, cd, ta, bg, kc, ob, ol, pb, pn, yp, ki, le, go, mk, cb, mb, mly, la, ps, pd, pt, kw, kh, kf, kz, ky, th, pl, md, cr, gc, lc, lr, wh, od, tg, tr, so, bd, wo, be) → wY_unpack_2 post (nI s) (nI n) f (nI k) fr en (nI m) 0 st lf cd ta bg kc ob ol pb pn yp ki le go mk cb mb mly la ps pd pt kw kh kf kz ky th pl md cr gc lc lr wh od tg tr so bd wo be := by
                intro post f hf hp
                obtain ⟨f, rfl⟩ : ∃ f', f = f' + 1 + 1 := ⟨f - 2, by omega⟩
                have o := yk_uend82 (e := 7) (ma := nI m) (wo := wo) (s := s) (n := n) (k := k + 1) (b := v) (T := v - 126) (J := 1) (post := post) hn (by omega) (by omega) (by omega) hv (by omega) (by omega) hp f 0
                refine yin post (f + 1) (nm_r (nI_1 k) (br_f n159 (br_f n127 (br_f nkn ⟨2, ?_⟩))))
                refine br_f (nI_nle (by omega) (by omega)) (br_t rfl (br_t hv128 (br_t hv128 ?_)))
                rw [ey1, ck1, hwd]
                refine ⟨vp_in_nI (by omega) (by omega), nm_r (ar_2 m dd) ⟨pk_in s 4 hs, ?_⟩⟩
                rw [cs, hpn]
                have e4 : nI k0 + (nI m - nI (dd + 1)) = nI (k0 + m) - nI (dd + 1) := ar_3 k0 m (dd + 1)
                refine nm_r e4 (br_t (pk_sneg (by omega) (by omega)) (br_t (pk_sneg (by omega) (by omega)) (br_t hv128 (br_f (by decide) ?_))))
                exact br_c (fun _ => br_f (by decide) (br_f (by decide) (nm_r (nI_1 0) o))) (fun _ => br_f (by decide) (nm_r (nI_1 0) o))
              refine ⟨7, m, pa, wo, Or.inr (Or.inl rfl), hm, ag, ?_, fun _ => y0, ?_⟩
              · intro post f hf hp
                obtain ⟨f, rfl⟩ : ∃ f', f = f' + 1 + 1 := ⟨f - 2, by omega⟩
                refine xin2 post f ⟨pk_in s 4 hs, ?_⟩
                rw [cs, hpn]
                refine nm_e ?_
                rw [nI_add]
                exact br_f (nI_ge (by omega) (by omega)) (br_f (by decide) hp)
              · have z := c0 (M + 1) m 7 m wo wo (by rw [hk0']; exact y0)
                rw [hk0'] at z
                exact z
end UNP2
end
section
/-! a session ends; faults -/
section ENDS2
variable {st pl md cr : Nat → Int32}
theorem lk_ends {B : Nat} {A : Nat → List bk_E} {g : Nat → Nat} {ob : Nat → Int32} {ol : Nat → Int32} {gc : Nat → Int32} {lc : Nat → Int32} {lr : Nat → Int32} {gv : Nat → Int32} {th : Nat → Int32} {hc : Nat → Int32} {hg : Nat → Int32} {hi : Nat → Int32} {ib : Nat → Int32} {il : Nat → Int32} {it : Nat → Int32} {qi : Nat → Int32} {qc : Nat → Int32} {ta : Nat → Int32} {wh : Nat → Int32} {od : Nat → Int32} {tg : Nat → Int32} {tr : Nat → Int32} {so : Nat → Int32} {bd : Nat → Int32} {fr : Int32} {en : Int32} (h : bk_C B A g st ol th pl md cr lr gv ib il it qi qc ta wh od tg tr so bd fr en) (rh : bk_RH A hi hg hc) (hB : B + 20 ≤ 100000000) {s : Nat} (hs : s < 4) :
    ∃ d : bk_DT, bk_C (B + 20) (zz_A d) (zz_g d) (upd st s (nI 2)) (zz_ol d) (zz_th d) pl md cr (zz_lr d) (zz_gv d) (zz_ib d) (zz_il d) (zz_it d) (zz_qi d) (zz_qc d) (zz_ta d) (zz_wh d) (zz_od d) (zz_tg d) (zz_tr d) (zz_so d) (zz_bd d) (zz_fr d) (zz_en d) ∧ bk_RH (zz_A d) (zz_hi d) (zz_hg d) (zz_hc d) ∧ (∀ r, r < 16 → r / 4 = s → zz_th d r = 0) ∧ (∀ r, r / 4 ≠ s → zz_th d r = th r) ∧
      (∀ {lf cd bg pb pn xp fh fl fa mk cb mi mb ml pa kb kl kc co : Nat → Int32} {px : Int32} (post : SX → Prop), post (px, upd st s (nI 2), lf, cd, upd bg s 0, zz_gv d, zz_ob d, zz_ol d, pb, pn, upd xp s 0, fh, fl, fa, mk, cb, upd mi s 0, mb, upd ml s 0, pa, kb, kl, upd kc s 0, zz_th d, pl, md, cr, zz_hc d, zz_hg d, zz_hi d, zz_ib d, zz_il d, zz_it d, zz_qi d, zz_qc d, zz_gc d, zz_lc d, zz_lr d, co) → wpX_endSession post (px, st, lf, cd, bg, gv, ob, ol, pb, pn, xp, fh, fl, fa, mk, cb, mi, mb, ml, pa, kb, kl, kc, th, pl, md, cr, hc, hg, hi, ib, il, it, qi, qc, gc, lc, lr, co) (nI s)) ∧
      (∀ {lf cd bg kc pb pn yp ki le go mk cb mb ml la ps pd pt kw kh kf kz ky wo be : Nat → Int32} {ma wr : Int32} (post : SY → Prop), post (zz_fr d, zz_en d, ma, wr, upd st s (nI 2), lf, cd, zz_ta d, upd bg s 0, upd kc s 0, zz_ob d, zz_ol d, pb, pn, upd yp s 0, ki, le, go, mk, cb, mb, upd ml s 0, la, ps, pd, upd pt s 0, kw, kh, kf, kz, ky, zz_th d, pl, md, cr, zz_gc d, zz_lc d, zz_lr d, zz_wh d, zz_od d, zz_tg d, zz_tr d, zz_so d, zz_bd d, wo, be) → wpY_ends post (fr, en, ma, wr, st, lf, cd, ta, bg, kc, ob, ol, pb, pn, yp, ki, le, go, mk, cb, mb, ml, la, ps, pd, pt, kw, kh, kf, kz, ky, th, pl, md, cr, gc, lc, lr, wh, od, tg, tr, so, bd, wo, be) (nI s)) := by
  have cs : (nI s).toNatClampNeg = s := nI_clamp (by omega)
  have i4 : vp_in (nI s) 4 := pk_in s 4 hs
  have h' := dk_st h (s := s) (a := 2) (by omega)
  obtain ⟨d0, h0, r0, t0, z0, x0, y0⟩ := lk_end1 (ob := ob) (gc := gc) (lc := lc) (r := 4 * s) h' rh (by omega) (by omega)
  obtain ⟨d1, h1, r1, t1, z1, x1, y1⟩ := lk_end1 (ob := zz_ob d0) (gc := zz_gc d0) (lc := zz_lc d0) (r := 4 * s + 1) h0 r0 (by omega) (by omega)
  obtain ⟨d2, h2, r2, t2, z2, x2, y2⟩ := lk_end1 (ob := zz_ob d1) (gc := zz_gc d1) (lc := zz_lc d1) (r := 4 * s + 2) h1 r1 (by omega) (by omega)
  obtain ⟨d3, h3, r3, t3, z3, x3, y3⟩ := lk_end1 (ob := zz_ob d2) (gc := zz_gc d2) (lc := zz_lc d2) (r := 4 * s + 3) h2 r2 (by omega) (by omega)
  have thE : zz_th d3 = upd (upd (upd (upd th (4 * s) 0) (4 * s + 1) 0) (4 * s + 2) 0) (4 * s + 3) 0 := by rw [t3, t2, t1, t0]
  refine ⟨d3, h3, r3, ?_, ?_, ?_, ?_⟩
  · intro r hr e
    have : r = 4 * s ∨ r = 4 * s + 1 ∨ r = 4 * s + 2 ∨ r = 4 * s + 3 := by omega
    rw [thE]
    unfold upd
    rcases this with rfl | rfl | rfl | rfl <;> simp
  · intro r e
    rw [thE, pk_un (by omega), pk_un (by omega), pk_un (by omega), pk_un (by omega)]
  · intro lf cd bg pb pn xp fh fl fa mk cb mi mb ml pa kb kl kc co px post hp
    have e0 : nI s * 4 + 0 = nI (4 * s) := by rw [bn_mul, Nat.mul_comm]; exact nI_add (4 * s) 0
    have e1 : nI s * 4 + nI 1 = nI (4 * s + 1) := by rw [bn_mul, nI_add, Nat.mul_comm]
    have e2 : nI s * 4 + nI 2 = nI (4 * s + 2) := by rw [bn_mul, nI_add, Nat.mul_comm]
    have e3 : nI s * 4 + nI 3 = nI (4 * s + 3) := by rw [bn_mul, nI_add, Nat.mul_comm]
    refine ⟨i4, ?_⟩
    rw [cs]
    refine nm_e ⟨5, br_f (by decide) ?_⟩
    rw [e0]
    refine x0 _ (nm_r (nI_1 0) (br_f (by decide) ?_))
    rw [e1]
    refine x1 _ (nm_r (nI_1 1) (br_f (by decide) ?_))
    rw [e2]
    refine x2 _ (nm_r (nI_1 2) (br_f (by decide) ?_))
    rw [e3]
    refine x3 _ (nm_r (nI_1 3) (br_t (by decide) ⟨i4, ?_⟩))
    rw [cs]
    exact nm_e ⟨i4, nm_e ⟨i4, nm_e ⟨i4, nm_e ⟨i4, nm_e hp⟩⟩⟩⟩
  · intro lf cd bg kc pb pn yp ki le go mk cb mb ml la ps pd pt kw kh kf kz ky wo be ma wr post hp
    have e4 : 4 * nI s = nI (4 * s) := bn_mul2 s 4
    have e44 : 4 * nI s + 4 = nI (4 * s + 4) := by rw [bn_mul2, bn_add]
    -- one round of the loop
    have step : ∀ {B : Nat} {A : Nat → List bk_E} {g : Nat → Nat} {ob : Nat → Int32} {ol : Nat → Int32} {gc : Nat → Int32} {lc : Nat → Int32} {lr : Nat → Int32} {gv : Nat → Int32} {th : Nat → Int32} {hc : Nat → Int32} {hg : Nat → Int32} {hi : Nat → Int32} {ib : Nat → Int32} {il : Nat → Int32} {it : Nat → Int32} {qi : Nat → Int32} {qc : Nat → Int32} {ta : Nat → Int32} {wh : Nat → Int32} {od : Nat → Int32} {tg : Nat → Int32} {tr : Nat → Int32} {so : Nat → Int32} {bd : Nat → Int32} {fr : Int32} {en : Int32} (d : bk_DT) (r f : Nat), r < 16 → r < 4 * s + 4 → (th r = 0 → d = (A, g, ob, ol, gc, lc, lr, gv, th, hc, hg, hi, ib, il, it, qi, qc, ta, wh, od, tg, tr, so, bd, fr, en)) → (th r ≠ 0 → ∀ {lf cd bg kc pb pn yp ki le go mk cb mb ml la ps pd pt kw kh kf kz ky wo be : Nat → Int32} {ma wr : Int32} (post : SY → Prop), post (zz_fr d, zz_en d, ma, wr, upd st s (nI 2), lf, cd, zz_ta d, bg, kc, zz_ob d, zz_ol d, pb, pn, yp, ki, le, go, mk, cb, mb, ml, la, ps, pd, pt, kw, kh, kf, kz, ky, zz_th d, pl, md, cr, zz_gc d, zz_lc d, zz_lr d, zz_wh d, zz_od d, zz_tg d, zz_tr d, zz_so d, zz_bd d, wo, be) → wpY_endsOne post (fr, en, ma, wr, upd st s (nI 2), lf, cd, ta, bg, kc, ob, ol, pb, pn, yp, ki, le, go, mk, cb, mb, ml, la, ps, pd, pt, kw, kh, kf, kz, ky, th, pl, md, cr, gc, lc, lr, wh, od, tg, tr, so, bd, wo, be) (nI r)) → wY_ends_11 post (nI s) f (nI (r + 1)) (zz_fr d) (zz_en d) ma wr (upd st s (nI 2)) lf cd (zz_ta d) bg kc (zz_ob d) (zz_ol d) pb pn yp ki le go mk cb mb ml la ps pd pt kw kh kf kz ky (zz_th d) pl md cr (zz_gc d) (zz_lc d) (zz_lr d) (zz_wh d) (zz_od d) (zz_tg d) (zz_tr d) (zz_so d) (zz_bd d) wo be → wY_ends_11 post (nI s) (f + 1) (nI r) fr en ma wr (upd st s (nI 2)) lf cd ta bg kc ob ol pb pn yp ki le go mk cb mb ml la ps pd pt kw kh kf kz ky th pl md cr gc lc lr wh od tg tr so bd wo be := by
      intro B A g ob ol gc lc lr gv th hc hg hi ib il it qi qc ta wh od tg tr so bd fr en d r f hr hr4 hz hy hn
      have cr' : (nI r).toNatClampNeg = r := nI_clamp (by omega)
      refine br_f (by rw [e44]; exact nI_ge hr4 (by omega)) ⟨pk_in r 16 hr, ?_⟩
      rw [cr']
      by_cases e : th r = 0
      · have hd := hz e
        subst hd
        exact br_t e (nm_r (nI_1 r) hn)
      · exact br_f e (hy e _ (nm_r (nI_1 r) hn))
    refine ⟨i4, ?_⟩
    rw [cs]
    refine nm_e (nm_r e4 ⟨5, ?_⟩)
    refine step (B := 0) d0 (4 * s) 4 (by omega) (by omega) z0 y0 ?_
    refine step (B := 0) d1 (4 * s + 1) 3 (by omega) (by omega) z1 y1 ?_
    refine step (B := 0) d2 (4 * s + 2) 2 (by omega) (by omega) z2 y2 ?_
    refine step (B := 0) d3 (4 * s + 3) 1 (by omega) (by omega) z3 y3 ?_
    refine br_t (by rw [e44]; exact nI_le (Nat.le_refl _) (by omega)) ⟨i4, ?_⟩
    rw [cs, bn_b0]
    exact nm_e ⟨i4, nm_e ⟨i4, nm_e ⟨i4, nm_e ⟨i4, nm_e hp⟩⟩⟩⟩
theorem lk_fault {B : Nat} {A : Nat → List bk_E} {g : Nat → Nat} {ob : Nat → Int32} {ol : Nat → Int32} {gc : Nat → Int32} {lc : Nat → Int32} {lr : Nat → Int32} {gv : Nat → Int32} {th : Nat → Int32} {hc : Nat → Int32} {hg : Nat → Int32} {hi : Nat → Int32} {ib : Nat → Int32} {il : Nat → Int32} {it : Nat → Int32} {qi : Nat → Int32} {qc : Nat → Int32} {ta : Nat → Int32} {wh : Nat → Int32} {od : Nat → Int32} {tg : Nat → Int32} {tr : Nat → Int32} {so : Nat → Int32} {bd : Nat → Int32} {fr : Int32} {en : Int32} (h : bk_C B A g st ol th pl md cr lr gv ib il it qi qc ta wh od tg tr so bd fr en) (rh : bk_RH A hi hg hc) (hB : B + 20 ≤ 100000000) {s : Nat} (hs : s < 4) (x : Int32) :
    ∃ d : bk_DT, bk_C (B + 20) (zz_A d) (zz_g d) (upd st s (nI 2)) (zz_ol d) (zz_th d) pl md cr (zz_lr d) (zz_gv d) (zz_ib d) (zz_il d) (zz_it d) (zz_qi d) (zz_qc d) (zz_ta d) (zz_wh d) (zz_od d) (zz_tg d) (zz_tr d) (zz_so d) (zz_bd d) (zz_fr d) (zz_en d) ∧ bk_RH (zz_A d) (zz_hi d) (zz_hg d) (zz_hc d) ∧ (∀ r, r < 16 → r / 4 = s → zz_th d r = 0) ∧ (∀ r, r / 4 ≠ s → zz_th d r = th r) ∧
      (∀ {lf cd bg pb pn xp fh fl fa mk cb mi mb ml pa kb kl kc co : Nat → Int32} {px : Int32} (post : SX → Prop), post (px, upd st s (nI 2), upd lf s x, cd, upd bg s 0, zz_gv d, zz_ob d, zz_ol d, pb, pn, upd xp s 0, fh, fl, fa, mk, cb, upd mi s 0, mb, upd ml s 0, pa, kb, kl, upd kc s 0, zz_th d, pl, md, cr, zz_hc d, zz_hg d, zz_hi d, zz_ib d, zz_il d, zz_it d, zz_qi d, zz_qc d, zz_gc d, zz_lc d, zz_lr d, co) → wpX_fail post (px, st, lf, cd, bg, gv, ob, ol, pb, pn, xp, fh, fl, fa, mk, cb, mi, mb, ml, pa, kb, kl, kc, th, pl, md, cr, hc, hg, hi, ib, il, it, qi, qc, gc, lc, lr, co) (nI s) x) ∧
      (∀ {lf cd bg kc pb pn yp ki le go mk cb mb ml la ps pd pt kw kh kf kz ky wo be : Nat → Int32} {ma wr : Int32} (post : SY → Prop), post (zz_fr d, zz_en d, ma, wr, upd st s (nI 2), upd lf s x, cd, zz_ta d, upd bg s 0, upd kc s 0, zz_ob d, zz_ol d, pb, pn, upd yp s 0, ki, le, go, mk, cb, mb, upd ml s 0, la, ps, pd, upd pt s 0, kw, kh, kf, kz, ky, zz_th d, pl, md, cr, zz_gc d, zz_lc d, zz_lr d, zz_wh d, zz_od d, zz_tg d, zz_tr d, zz_so d, zz_bd d, upd wo 0 x, be) → wpY_faults post (fr, en, ma, wr, st, lf, cd, ta, bg, kc, ob, ol, pb, pn, yp, ki, le, go, mk, cb, mb, ml, la, ps, pd, pt, kw, kh, kf, kz, ky, th, pl, md, cr, gc, lc, lr, wh, od, tg, tr, so, bd, wo, be) (nI s) x) := by
  have cs : (nI s).toNatClampNeg = s := nI_clamp (by omega)
  have i4 : vp_in (nI s) 4 := pk_in s 4 hs
  obtain ⟨_, _, _, ⟨a, ha, ea⟩, _⟩ := h.2.2.2.1 s hs
  by_cases room : a + 2 + 1 ≤ 240
  · have w := dk_ol h (s := s) (a := a + 3) (by omega)
    obtain ⟨d, h1, r1, q1, q2, x1, y1⟩ := lk_ends (ob := upd (upd (upd ob (240 * s + a) (128 + 8)) (240 * s + (a + 1)) 1) (240 * s + (a + 2)) x) (gc := gc) (lc := lc) w rh hB hs
    refine ⟨d, h1, r1, q1, q2, ?_, ?_⟩
    · intro lf cd bg pb pn xp fh fl fa mk cb mi mb ml pa kb kl kc co px post hp
      refine ⟨i4, ?_⟩
      rw [cs]
      refine nm_e (xk_hasRoom (n := 1) hs ea ha (by omega) (fun _ => br_f (by decide) ?_) (fun z => by omega))
      refine xk_startFrame hs ea (by omega) (xk_put hs pk_us (by omega) ?_)
      rw [bk_uu]
      exact x1 _ hp
    · intro lf cd bg kc pb pn yp ki le go mk cb mb ml la ps pd pt kw kh kf kz ky wo be ma wr post hp
      refine ⟨i4, ?_⟩
      rw [cs]
      refine nm_e (nm_e (yk_write (n := 1) (k := 8) hs ea ha (by omega) (fun _ => ?_) (fun z => by omega)))
      exact y1 _ hp
  · obtain ⟨d, h1, r1, q1, q2, x1, y1⟩ := lk_ends (ob := ob) (gc := gc) (lc := lc) h rh hB hs
    refine ⟨d, h1, r1, q1, q2, ?_, ?_⟩
    · intro lf cd bg pb pn xp fh fl fa mk cb mi mb ml pa kb kl kc co px post hp
      refine ⟨i4, ?_⟩
      rw [cs]
      refine nm_e (xk_hasRoom (n := 1) hs ea ha (by omega) (fun z => by omega) (fun _ => br_t rfl ?_))
      exact x1 _ hp
    · intro lf cd bg kc pb pn yp ki le go mk cb mb ml la ps pd pt kw kh kf kz ky wo be ma wr post hp
      refine ⟨i4, ?_⟩
      rw [cs]
      refine nm_e (nm_e (yk_write (n := 1) (k := 8) hs ea ha (by omega) (fun z => by omega) (fun _ => ?_)))
      exact y1 _ hp
end ENDS2
end
section
/-! the first byte of a frame -/
def bk_V0 (b mm : Nat) : Prop := b / 16 % 4 = 0 ∧ ((8 ≤ b % 16 ∧ b % 16 ≤ 10 ∧ 128 ≤ b) ∨ (b % 16 = 1 ∧ mm = 0) ∨ (b % 16 = 0 ∧ mm ≠ 0)) ∧ (b / 64 % 2 = 0 ∨ b % 16 = 1)
section FIRST
variable {B : Nat} {A : Nat → List bk_E} {g : Nat → Nat} {st lf cd bg gv ob ol pb pn xp fh fl fa mk cb mi mb ml pa kb kl kc th pl md cr hc hg hi ib il it qi qc gc lc lr co ta yp ki le go la ps pd pt kw kh kf kz ky wh od tg tr so bd wo be : Nat → Int32} {px fr en ma wr : Int32}
theorem xk_readFirst {post : Int32 → SX → Prop} {s b mm : Nat} (hs : s < 4) (hb : b < 256) (hm : mi s = nI mm) (hmm : mm ≤ 2)
    (h0 : ¬ bk_V0 b mm → post 2 (px, st, lf, cd, bg, gv, ob, ol, pb, pn, xp, fh, fl, fa, mk, cb, mi, mb, ml, pa, kb, kl, kc, th, pl, md, cr, hc, hg, hi, ib, il, it, qi, qc, gc, lc, lr, co)) (h1 : bk_V0 b mm → b % 16 ≠ 1 → post 0 (px, st, lf, cd, bg, gv, ob, ol, pb, pn, upd xp s 1, upd fh s (nI b), fl, fa, mk, cb, mi, mb, ml, pa, kb, kl, kc, th, pl, md, cr, hc, hg, hi, ib, il, it, qi, qc, gc, lc, lr, co))
    (h2 : bk_V0 b mm → b % 16 = 1 → b / 64 % 2 = 0 → post 0 (px, st, lf, cd, bg, gv, ob, ol, pb, pn, upd xp s 1, upd fh s (nI b), fl, fa, mk, cb, upd mi s 1, mb, ml, pa, kb, kl, kc, th, pl, md, cr, hc, hg, hi, ib, il, it, qi, qc, gc, lc, lr, co)) (h3 : bk_V0 b mm → b % 16 = 1 → b / 64 % 2 ≠ 0 → post 0 (px, st, lf, cd, bg, gv, ob, ol, pb, pn, upd xp s 1, upd fh s (nI b), fl, fa, mk, cb, upd mi s 2, mb, ml, pa, kb, kl, kc, th, pl, md, cr, hc, hg, hi, ib, il, it, qi, qc, gc, lc, lr, co)) : wpX_readFirst post (px, st, lf, cd, bg, gv, ob, ol, pb, pn, xp, fh, fl, fa, mk, cb, mi, mb, ml, pa, kb, kl, kc, th, pl, md, cr, hc, hg, hi, ib, il, it, qi, qc, gc, lc, lr, co) (nI s) (nI b) := by
  have cs : (nI s).toNatClampNeg = s := nI_clamp (by omega)
  have i4 : vp_in (nI s) 4 := pk_in s 4 hs
  have e15 := bn_15 b (by omega)
  have f138 : ∀ (mi' : Nat → Int32), post 0 (px, st, lf, cd, bg, gv, ob, ol, pb, pn, upd xp s 1, upd fh s (nI b), fl, fa, mk, cb, mi', mb, ml, pa, kb, kl, kc, th, pl, md, cr, hc, hg, hi, ib, il, it, qi, qc, gc, lc, lr, co) → wX_readFirst_138 post (nI s) (nI b) px st lf cd bg gv ob ol pb pn xp fh fl fa mk cb mi' mb ml pa kb kl kc th pl md cr hc hg hi ib il it qi qc gc lc lr co := by
    intro mi' hp
    refine ⟨i4, ?_⟩
    rw [cs]
    exact nm_e ⟨i4, nm_e hp⟩
  have f117 : ∀ z0 : Int32, (z0 = 0 ↔ b / 64 % 2 = 0) → bk_V0 b mm → wX_readFirst_117 post (nI s) (nI b) (nI (b % 16)) z0 px st lf cd bg gv ob ol pb pn xp fh fl fa mk cb mi mb ml pa kb kl kc th pl md cr hc hg hi ib il it qi qc gc lc lr co := by
    intro z0 hz v
    refine pk_eq (b % 16) 1 (fun e => ?_) (fun e => f138 mi (h1 v e))
    refine br_c (fun q => ?_) (fun q => ?_)
    · refine ⟨i4, ?_⟩
      rw [cs]
      exact nm_e (f138 _ (h2 v e (hz.mp q)))
    · refine ⟨i4, ?_⟩
      rw [cs]
      exact nm_e (f138 _ (h3 v e (fun x => q (hz.mpr x))))
  have f91 : ∀ x6 z0 : Int32, (z0 = 0 ↔ b / 64 % 2 = 0) → (x6 = 0 ↔ ¬ ((8 ≤ b % 16 ∧ b % 16 ≤ 10 ∧ 128 ≤ b) ∨ (b % 16 = 1 ∧ mm = 0) ∨ (b % 16 = 0 ∧ mm ≠ 0))) → wX_readFirst_91 post (nI s) (nI b) (nI (b % 16)) x6 z0 px st lf cd bg gv ob ol pb pn xp fh fl fa mk cb mi mb ml pa kb kl kc th pl md cr hc hg hi ib il it qi qc gc lc lr co := by
    intro x6 z0 hz hx
    refine br_c (fun q => h0 (fun v => (hx.mp q) v.2.1)) (fun q => ?_)
    have k : (8 ≤ b % 16 ∧ b % 16 ≤ 10 ∧ 128 ≤ b) ∨ (b % 16 = 1 ∧ mm = 0) ∨ (b % 16 = 0 ∧ mm ≠ 0) := by
      apply Classical.byContradiction
      intro n
      exact q (hx.mpr n)
    refine br_c (fun q48 => ?_) (fun q48 => h0 (fun v => q48 ((bn_48 b hb).mpr v.1)))
    have k48 := (bn_48 b hb).mp q48
    refine br_c (fun qz => f117 z0 hz ⟨k48, k, Or.inl (hz.mp qz)⟩) (fun qz => ?_)
    refine pk_eq (b % 16) 1 (fun e => f117 z0 hz ⟨k48, k, Or.inr e⟩) (fun e => h0 (fun v => ?_))
    rcases v.2.2 with x | x
    · exact qz (hz.mpr x)
    · exact e x
  have f77 : ∀ x6 : Int32, (x6 = 0 ↔ ¬ ((8 ≤ b % 16 ∧ b % 16 ≤ 10 ∧ 128 ≤ b) ∨ (b % 16 = 1 ∧ mm = 0) ∨ (b % 16 = 0 ∧ mm ≠ 0))) → wX_readFirst_77 post (nI s) (nI b) (nI (b % 16)) x6 px st lf cd bg gv ob ol pb pn xp fh fl fa mk cb mi mb ml pa kb kl kc th pl md cr hc hg hi ib il it qi qc gc lc lr co := by
    intro x6 hx
    refine br_c (fun q => f91 x6 0 ⟨fun _ => (bn_64 b hb).mp q, fun _ => rfl⟩ hx) (fun q => f91 x6 1 ⟨fun z => absurd z (by decide), fun z => absurd ((bn_64 b hb).mpr z) q⟩ hx)
  have t72 : ((8 ≤ b % 16 ∧ b % 16 ≤ 10 ∧ 128 ≤ b) ∨ (b % 16 = 1 ∧ mm = 0) ∨ (b % 16 = 0 ∧ mm ≠ 0)) → wX_readFirst_72 post (nI s) (nI b) (nI (b % 16)) px st lf cd bg gv ob ol pb pn xp fh fl fa mk cb mi mb ml pa kb kl kc th pl md cr hc hg hi ib il it qi qc gc lc lr co := fun k => f77 1 ⟨fun z => absurd z (by decide), fun z => absurd k z⟩
  have t76 : ¬ ((8 ≤ b % 16 ∧ b % 16 ≤ 10 ∧ 128 ≤ b) ∨ (b % 16 = 1 ∧ mm = 0) ∨ (b % 16 = 0 ∧ mm ≠ 0)) → wX_readFirst_76 post (nI s) (nI b) (nI (b % 16)) px st lf cd bg gv ob ol pb pn xp fh fl fa mk cb mi mb ml pa kb kl kc th pl md cr hc hg hi ib il it qi qc gc lc lr co := fun k => f77 0 ⟨fun _ => k, fun _ => rfl⟩
  have f53 : ∀ x5 : Int32, (x5 = 0 ↔ mm = 0) → ¬ (8 ≤ b % 16 ∧ b % 16 ≤ 10 ∧ 128 ≤ b) → wX_readFirst_53 post (nI s) (nI b) (nI (b % 16)) x5 px st lf cd bg gv ob ol pb pn xp fh fl fa mk cb mi mb ml pa kb kl kc th pl md cr hc hg hi ib il it qi qc gc lc lr co := by
    intro x5 h5 nc
    refine pk_eq (b % 16) 1 (fun e => br_c (fun q => t72 (Or.inr (Or.inl ⟨e, h5.mp q⟩))) (fun q => ?_)) (fun e => ?_)
    · exact pk_eq (b % 16) 0 (fun e2 => by omega) (fun e2 => t76 (fun k => by
        rcases k with k | k | k
        · exact nc k
        · exact q (h5.mpr k.2)
        · omega))
    · refine pk_eq (b % 16) 0 (fun e2 => br_c (fun q => t76 (fun k => ?_)) (fun q => t72 (Or.inr (Or.inr ⟨e2, fun z => q (h5.mpr z)⟩)))) (fun e2 => t76 (fun k => ?_))
      · have := h5.mp q
        rcases k with k | k | k <;> first | exact nc k | omega
      · rcases k with k | k | k <;> first | exact nc k | omega
  have f38 : ∀ x4 x5 : Int32, (x4 = 0 ↔ ¬ (8 ≤ b % 16 ∧ b % 16 ≤ 10)) → (x5 = 0 ↔ mm = 0) → wX_readFirst_38 post (nI s) (nI b) (nI (b % 16)) x4 x5 px st lf cd bg gv ob ol pb pn xp fh fl fa mk cb mi mb ml pa kb kl kc th pl md cr hc hg hi ib il it qi qc gc lc lr co := by
    intro x4 x5 h4 h5
    refine br_c (fun q => f53 x5 h5 (fun k => (h4.mp q) ⟨k.1, k.2.1⟩)) (fun q => br_c (fun q2 => f53 x5 h5 (fun k => ?_)) (fun q2 => t72 (Or.inl ?_)))
    · have := (bn_128 b hb).mp q2
      omega
    · have n2 : ¬ b < 128 := fun z => q2 ((bn_128 b hb).mpr z)
      have k : 8 ≤ b % 16 ∧ b % 16 ≤ 10 := by
        apply Classical.byContradiction
        intro n
        exact q (h4.mpr n)
      omega
  have f22 : ∀ x4 : Int32, (x4 = 0 ↔ ¬ (8 ≤ b % 16 ∧ b % 16 ≤ 10)) → wX_readFirst_22 post (nI s) (nI b) (nI (b % 16)) x4 px st lf cd bg gv ob ol pb pn xp fh fl fa mk cb mi mb ml pa kb kl kc th pl md cr hc hg hi ib il it qi qc gc lc lr co := by
    intro x4 h4
    refine ⟨i4, ?_⟩
    rw [cs, hm]
    exact pk_eq mm 0 (fun e => f38 x4 0 h4 ⟨fun _ => e, fun _ => rfl⟩) (fun e => f38 x4 1 h4 ⟨fun z => absurd z (by decide), fun z => absurd z e⟩)
  unfold wpX_readFirst
  dsimp only
  rw [e15]
  refine nm_e ?_
  refine pk_lt (b % 16) 8 (fun e => f22 0 ⟨fun _ => by omega, fun _ => rfl⟩) (fun e => pk_lt 10 (b % 16) (fun e2 => f22 0 ⟨fun _ => by omega, fun _ => rfl⟩) (fun e2 => f22 1 ⟨fun z => absurd z (by decide), fun z => absurd (And.intro e e2) z⟩))
theorem yk_first {post : SY → Prop} {s b mm : Nat} (hs : s < 4) (hb : b < 256) (hm : pt s = (if mm = 0 then 0 else 1))
    (h0 : ¬ bk_V0 b mm → wpY_faults (fun u => match u with | (fr, en, ma, wr, st, lf, cd, ta, bg, kc, ob, ol, pb, pn, yp, ki, le, go, mk, cb, mb, ml, la, ps, pd, pt, kw, kh, kf, kz, ky, th, pl, md, cr, gc, lc, lr, wh, od, tg, tr, so, bd, wo, be) => post (fr, en, ma, wr, st, lf, cd, ta, bg, kc, ob, ol, pb, pn, yp, ki, le, go, mk, cb, mb, ml, la, ps, pd, pt, kw, kh, kf, kz, ky, th, pl, md, cr, gc, lc, lr, wh, od, tg, tr, so, bd, wo, be)) (fr, en, ma, wr, st, lf, cd, ta, bg, kc, ob, ol, pb, pn, yp, ki, le, go, mk, cb, mb, ml, la, ps, pd, pt, kw, kh, kf, kz, ky, th, pl, md, cr, gc, lc, lr, wh, od, tg, tr, so, bd, wo, be) (nI s) 2)
    (h1 : bk_V0 b mm → post (fr, en, ma, wr, st, lf, cd, ta, bg, kc, ob, ol, pb, pn, upd yp s 1, upd ki s (nI (b % 16)), le, go, mk, cb, mb, ml, upd la s (if b < 128 then 0 else 1), upd ps s (if b / 64 % 2 = 0 then 0 else 1), pd, pt, kw, kh, kf, kz, ky, th, pl, md, cr, gc, lc, lr, wh, od, tg, tr, so, bd, wo, be)) : wpY_first post (fr, en, ma, wr, st, lf, cd, ta, bg, kc, ob, ol, pb, pn, yp, ki, le, go, mk, cb, mb, ml, la, ps, pd, pt, kw, kh, kf, kz, ky, th, pl, md, cr, gc, lc, lr, wh, od, tg, tr, so, bd, wo, be) (nI s) (nI b) := by
  have cs : (nI s).toNatClampNeg = s := nI_clamp (by omega)
  have i4 : vp_in (nI s) 4 := pk_in s 4 hs
  have e15 := bn_15 b (by omega)
  have f102 : ∀ x4 x5 : Int32, x4 = (if b / 64 % 2 = 0 then 0 else 1) → x5 = (if b < 128 then 0 else 1) → bk_V0 b mm → wY_first_102 post (nI s) (nI (b % 16)) x4 x5 fr en ma wr st lf cd ta bg kc ob ol pb pn yp ki le go mk cb mb ml la ps pd pt kw kh kf kz ky th pl md cr gc lc lr wh od tg tr so bd wo be := by
    intro x4 x5 h4 h5 v
    have n4 : vp_nar .boolean x4 = x4 := by rw [h4]; split; exact bn_b0; exact bn_b1
    have n5 : vp_nar .boolean x5 = x5 := by rw [h5]; split; exact bn_b0; exact bn_b1
    refine ⟨i4, ?_⟩
    rw [cs, n4, n5, h4, h5]
    exact nm_e ⟨i4, nm_e ⟨i4, nm_e ⟨i4, nm_e (h1 v)⟩⟩⟩
  have f71 : ∀ x4 x5 : Int32, x4 = (if b / 64 % 2 = 0 then 0 else 1) → x5 = (if b < 128 then 0 else 1) → b / 16 % 4 = 0 → (b % 16 ≤ 1 ∨ (8 ≤ b % 16 ∧ b % 16 ≤ 10 ∧ 128 ≤ b)) → (b / 64 % 2 = 0 ∨ b % 16 = 1) → wY_first_71 post (nI s) (nI (b % 16)) x4 x5 fr en ma wr st lf cd ta bg kc ob ol pb pn yp ki le go mk cb mb ml la ps pd pt kw kh kf kz ky th pl md cr gc lc lr wh od tg tr so bd wo be := by
    intro x4 x5 h4 h5 k48 k k64
    refine pk_le 2 (b % 16) (fun e => f102 x4 x5 h4 h5 ⟨k48, Or.inl (by omega), k64⟩) (fun e => ⟨i4, ?_⟩)
    rw [cs, hm]
    refine pk_eq (b % 16) 1 (fun e1 => ?_) (fun e1 => ?_)
    · by_cases z : mm = 0
      · rw [if_pos z]
        exact br_f (by decide) (f102 x4 x5 h4 h5 ⟨k48, Or.inr (Or.inl ⟨e1, z⟩), k64⟩)
      · rw [if_neg z]
        refine br_t rfl (h0 (fun v => ?_))
        rcases v.2.1 with x | x | x <;> omega
    · by_cases z : mm = 0
      · rw [if_pos z]
        refine br_t rfl (h0 (fun v => ?_))
        rcases v.2.1 with x | x | x <;> omega
      · rw [if_neg z]
        exact br_f (by decide) (f102 x4 x5 h4 h5 ⟨k48, Or.inr (Or.inr ⟨by omega, z⟩), k64⟩)
  have f61 : ∀ x4 x5 : Int32, x4 = (if b / 64 % 2 = 0 then 0 else 1) → x5 = (if b < 128 then 0 else 1) → b / 16 % 4 = 0 → (b % 16 ≤ 1 ∨ (8 ≤ b % 16 ∧ b % 16 ≤ 10 ∧ 128 ≤ b)) → wY_first_61 post (nI s) (nI (b % 16)) x4 x5 fr en ma wr st lf cd ta bg kc ob ol pb pn yp ki le go mk cb mb ml la ps pd pt kw kh kf kz ky th pl md cr gc lc lr wh od tg tr so bd wo be := by
    intro x4 x5 h4 h5 k48 k
    refine br_c (fun q => f71 x4 x5 h4 h5 k48 k (Or.inl ?_)) (fun q => pk_eq (b % 16) 1 (fun e => f71 x4 x5 h4 h5 k48 k (Or.inr e)) (fun e => h0 (fun v => ?_)))
    · apply Classical.byContradiction
      intro n
      rw [h4, if_neg n] at q
      exact absurd q (by decide)
    · rcases v.2.2 with x | x
      · rw [h4, if_pos x] at q
        exact q rfl
      · exact e x
  have f30 : ∀ x4 x5 : Int32, x4 = (if b / 64 % 2 = 0 then 0 else 1) → x5 = (if b < 128 then 0 else 1) → wY_first_30 post (nI s) (nI b) (nI (b % 16)) x4 x5 fr en ma wr st lf cd ta bg kc ob ol pb pn yp ki le go mk cb mb ml la ps pd pt kw kh kf kz ky th pl md cr gc lc lr wh od tg tr so bd wo be := by
    intro x4 x5 h4 h5
    refine br_c (fun q48 => ?_) (fun q48 => h0 (fun v => q48 ((bn_48 b hb).mpr v.1)))
    have k48 := (bn_48 b hb).mp q48
    have bad : (∀ v : bk_V0 b mm, False) → wpY_faults (fun u => match u with | (fr, en, ma, wr, st, lf, cd, ta, bg, kc, ob, ol, pb, pn, yp, ki, le, go, mk, cb, mb, ml, la, ps, pd, pt, kw, kh, kf, kz, ky, th, pl, md, cr, gc, lc, lr, wh, od, tg, tr, so, bd, wo, be) => post (fr, en, ma, wr, st, lf, cd, ta, bg, kc, ob, ol, pb, pn, yp, ki, le, go, mk, cb, mb, ml, la, ps, pd, pt, kw, kh, kf, kz, ky, th, pl, md, cr, gc, lc, lr, wh, od, tg, tr, so, bd, wo, be)) (fr, en, ma, wr, st, lf, cd, ta, bg, kc, ob, ol, pb, pn, yp, ki, le, go, mk, cb, mb, ml, la, ps, pd, pt, kw, kh, kf, kz, ky, th, pl, md, cr, gc, lc, lr, wh, od, tg, tr, so, bd, wo, be) (nI s) 2 := fun z => h0 z
    refine pk_le (b % 16) 1 (fun e => f61 x4 x5 h4 h5 k48 (Or.inl e)) (fun e => pk_lt (b % 16) 8 (fun e2 => bad (fun v => ?_)) (fun e2 => pk_lt 10 (b % 16) (fun e3 => bad (fun v => ?_)) (fun e3 => br_c (fun q => bad (fun v => ?_)) (fun q => f61 x4 x5 h4 h5 k48 (Or.inr ⟨e2, e3, ?_⟩)))))
    · rcases v.2.1 with x | x | x <;> omega
    · rcases v.2.1 with x | x | x <;> omega
    · have nb : b < 128 := by
        apply Classical.byContradiction
        intro n
        rw [h5, if_neg n] at q
        exact absurd q (by decide)
      rcases v.2.1 with x | x | x <;> omega
    · apply Classical.byContradiction
      intro n
      rw [h5, if_pos (by omega)] at q
      exact q rfl
  have f17 : ∀ x4 : Int32, x4 = (if b / 64 % 2 = 0 then 0 else 1) → wY_first_17 post (nI s) (nI b) (nI (b % 16)) x4 fr en ma wr st lf cd ta bg kc ob ol pb pn yp ki le go mk cb mb ml la ps pd pt kw kh kf kz ky th pl md cr gc lc lr wh od tg tr so bd wo be := by
    intro x4 h4
    exact pk_le b 127 (fun e => f30 x4 0 h4 (by rw [if_pos (by omega)])) (fun e => f30 x4 1 h4 (by rw [if_neg (by omega)]))
  unfold wpY_first
  dsimp only
  rw [e15]
  refine nm_e (br_c (fun q => f17 0 (by rw [if_pos ((bn_64 b hb).mp q)])) (fun q => f17 1 (by rw [if_neg (fun z => q ((bn_64 b hb).mpr z))])))
end FIRST
end
section
/-! the whole relation -/
def bk_S0 (B : Nat) (A : Nat → List bk_E) (g : Nat → Nat) (st ol th pl md cr lr gv ib il it qi qc ta wh od tg tr so bd : Nat → Int32) (fr en : Int32) (hc hg hi kc kb kl kw kh kf kz ky mk cb mb pb pn bg be : Nat → Int32) : Prop :=
  bk_C B A g st ol th pl md cr lr gv ib il it qi qc ta wh od tg tr so bd fr en ∧ bk_RH A hi hg hc ∧ (∀ z, z < 4 → bk_K kc kb kl kw kh kf kz ky z) ∧ (bk_By mk ∧ bk_By cb ∧ bk_By mb ∧ bk_By pb) ∧ (∀ z, z < 4 → ∃ a, a ≤ 64 ∧ pn z = nI a) ∧ (∀ z, z < 4 → ∃ b, b < 4 ∧ bg z = nI b) ∧
  (∀ z, z < 4 → st z = 1 ∨ ∀ r, r < 16 → r / 4 = z → th r = 0) ∧ be 0 = 0
def bk_S (B : Nat) (A : Nat → List bk_E) (g : Nat → Nat) (st ol th pl md cr lr gv ib il it qi qc ta wh od tg tr so bd : Nat → Int32) (fr en : Int32) (hc hg hi kc kb kl kw kh kf kz ky mk cb mb pb pn bg be : Nat → Int32) (ml xp fh fl fa mi yp ki le go la ps pd pt : Nat → Int32) : Prop := bk_S0 B A g st ol th pl md cr lr gv ib il it qi qc ta wh od tg tr so bd fr en hc hg hi kc kb kl kw kh kf kz ky mk cb mb pb pn bg be ∧ ∀ z, z < 4 → bk_F ml xp fh fl fa mi yp ki le go la ps pd pt z
theorem bk_F_of {ml xp fh fl fa mi yp ki le go la ps pd pt ml' xp' fh' fl' fa' mi' yp' ki' le' go' la' ps' pd' pt' : Nat → Int32} {z : Nat} (h : bk_F ml xp fh fl fa mi yp ki le go la ps pd pt z) (e1 : ml' z = ml z) (e2 : xp' z = xp z) (e3 : fh' z = fh z) (e4 : fl' z = fl z) (e5 : fa' z = fa z) (e6 : mi' z = mi z) (e7 : yp' z = yp z) (e8 : ki' z = ki z) (e9 : le' z = le z) (e10 : go' z = go z) (e11 : la' z = la z) (e12 : ps' z = ps z) (e13 : pd' z = pd z) (e14 : pt' z = pt z) : bk_F ml' xp' fh' fl' fa' mi' yp' ki' le' go' la' ps' pd' pt' z := by
  unfold bk_F bk_F1 bk_Mi at *
  rw [e1, e2, e3, e4, e5, e6, e7, e8, e9, e10, e11, e12, e13, e14]
  exact h
/-- a session between frames, with no message -/
theorem bk_F_zero {ml xp fh fl fa mi yp ki le go la ps pd pt : Nat → Int32} {z : Nat} (e1 : ml z = 0) (e2 : xp z = 0) (e3 : yp z = 0) (e4 : mi z = 0) (e5 : pt z = 0) : bk_F ml xp fh fl fa mi yp ki le go la ps pd pt z :=
  ⟨0, by omega, e1, Or.inl ⟨e2, e3, Or.inl ⟨e4, e5⟩⟩⟩
section STATE
variable {B : Nat} {A : Nat → List bk_E} {g : Nat → Nat} {st lf cd bg gv ob ol pb pn xp fh fl fa mk cb mi mb ml pa kb kl kc th pl md cr hc hg hi ib il it qi qc gc lc lr co ta yp ki le go la ps pd pt kw kh kf kz ky wh od tg tr so bd wo be : Nat → Int32} {px fr en ma wr : Int32}
theorem lk_S_fault (h : bk_S0 B A g st ol th pl md cr lr gv ib il it qi qc ta wh od tg tr so bd fr en hc hg hi kc kb kl kw kh kf kz ky mk cb mb pb pn bg be) {s : Nat} (hs : s < 4) (hF : ∀ z, z < 4 → z ≠ s → bk_F ml xp fh fl fa mi yp ki le go la ps pd pt z) (hB : B + 20 ≤ 100000000) (x : Int32) :
    ∃ d : bk_DT, bk_S (B + 20) (zz_A d) (zz_g d) (upd st s (nI 2)) (zz_ol d) (zz_th d) pl md cr (zz_lr d) (zz_gv d) (zz_ib d) (zz_il d) (zz_it d) (zz_qi d) (zz_qc d) (zz_ta d) (zz_wh d) (zz_od d) (zz_tg d) (zz_tr d) (zz_so d) (zz_bd d) (zz_fr d) (zz_en d) (zz_hc d) (zz_hg d) (zz_hi d) (upd kc s 0) kb kl kw kh kf kz ky mk cb mb pb pn (upd bg s 0) be (upd ml s 0) (upd xp s 0) fh fl fa (upd mi s 0) (upd yp s 0) ki le go la ps pd (upd pt s 0) ∧
      (∀ {lf cd bg pb pn xp fh fl fa mk cb mi mb ml pa kb kl kc co : Nat → Int32} {px : Int32} (post : SX → Prop), post (px, upd st s (nI 2), upd lf s x, cd, upd bg s 0, zz_gv d, zz_ob d, zz_ol d, pb, pn, upd xp s 0, fh, fl, fa, mk, cb, upd mi s 0, mb, upd ml s 0, pa, kb, kl, upd kc s 0, zz_th d, pl, md, cr, zz_hc d, zz_hg d, zz_hi d, zz_ib d, zz_il d, zz_it d, zz_qi d, zz_qc d, zz_gc d, zz_lc d, zz_lr d, co) → wpX_fail post (px, st, lf, cd, bg, gv, ob, ol, pb, pn, xp, fh, fl, fa, mk, cb, mi, mb, ml, pa, kb, kl, kc, th, pl, md, cr, hc, hg, hi, ib, il, it, qi, qc, gc, lc, lr, co) (nI s) x) ∧
      (∀ {lf cd bg kc pb pn yp ki le go mk cb mb ml la ps pd pt kw kh kf kz ky wo be : Nat → Int32} {ma wr : Int32} (post : SY → Prop), post (zz_fr d, zz_en d, ma, wr, upd st s (nI 2), upd lf s x, cd, zz_ta d, upd bg s 0, upd kc s 0, zz_ob d, zz_ol d, pb, pn, upd yp s 0, ki, le, go, mk, cb, mb, upd ml s 0, la, ps, pd, upd pt s 0, kw, kh, kf, kz, ky, zz_th d, pl, md, cr, zz_gc d, zz_lc d, zz_lr d, zz_wh d, zz_od d, zz_tg d, zz_tr d, zz_so d, zz_bd d, upd wo 0 x, be) → wpY_faults post (fr, en, ma, wr, st, lf, cd, ta, bg, kc, ob, ol, pb, pn, yp, ki, le, go, mk, cb, mb, ml, la, ps, pd, pt, kw, kh, kf, kz, ky, th, pl, md, cr, gc, lc, lr, wh, od, tg, tr, so, bd, wo, be) (nI s) x) := by
  obtain ⟨h1, h2, h3, h4, h5, h6, h7, h8⟩ := h
  obtain ⟨d, c1, r1, q1, q2, x1, y1⟩ := lk_fault (ob := ob) (gc := gc) (lc := lc) h1 h2 hB hs x
  refine ⟨d, ⟨⟨c1, r1, bk_K_none h3 s, h4, h5, ?_, ?_, h8⟩, ?_⟩, x1, y1⟩
  · intro z hz
    by_cases e : z = s
    · subst e; exact ⟨0, by omega, pk_us⟩
    · rw [pk_un e]; exact h6 z hz
  · intro z hz
    by_cases e : z = s
    · subst e; exact Or.inr q1
    · rw [pk_un e]
      rcases h7 z hz with w | w
      · exact Or.inl w
      · exact Or.inr (fun r hr er => by rw [q2 r (by omega)]; exact w r hr er)
  · intro z hz
    by_cases e : z = s
    · subst e; exact bk_F_zero pk_us pk_us pk_us pk_us pk_us
    · exact bk_F_of (hF z hz e) (pk_un e) (pk_un e) rfl rfl rfl (pk_un e) (pk_un e) rfl rfl rfl rfl rfl rfl (pk_un e)
theorem lk_S_ends (h : bk_S0 B A g st ol th pl md cr lr gv ib il it qi qc ta wh od tg tr so bd fr en hc hg hi kc kb kl kw kh kf kz ky mk cb mb pb pn bg be) {s : Nat} (hs : s < 4) (hF : ∀ z, z < 4 → z ≠ s → bk_F ml xp fh fl fa mi yp ki le go la ps pd pt z) (hB : B + 20 ≤ 100000000) :
    ∃ d : bk_DT, bk_S (B + 20) (zz_A d) (zz_g d) (upd st s (nI 2)) (zz_ol d) (zz_th d) pl md cr (zz_lr d) (zz_gv d) (zz_ib d) (zz_il d) (zz_it d) (zz_qi d) (zz_qc d) (zz_ta d) (zz_wh d) (zz_od d) (zz_tg d) (zz_tr d) (zz_so d) (zz_bd d) (zz_fr d) (zz_en d) (zz_hc d) (zz_hg d) (zz_hi d) (upd kc s 0) kb kl kw kh kf kz ky mk cb mb pb pn (upd bg s 0) be (upd ml s 0) (upd xp s 0) fh fl fa (upd mi s 0) (upd yp s 0) ki le go la ps pd (upd pt s 0) ∧ (∀ r, r < 16 → r / 4 = s → zz_th d r = 0) ∧
      (∀ {lf cd bg pb pn xp fh fl fa mk cb mi mb ml pa kb kl kc co : Nat → Int32} {px : Int32} (post : SX → Prop), post (px, upd st s (nI 2), lf, cd, upd bg s 0, zz_gv d, zz_ob d, zz_ol d, pb, pn, upd xp s 0, fh, fl, fa, mk, cb, upd mi s 0, mb, upd ml s 0, pa, kb, kl, upd kc s 0, zz_th d, pl, md, cr, zz_hc d, zz_hg d, zz_hi d, zz_ib d, zz_il d, zz_it d, zz_qi d, zz_qc d, zz_gc d, zz_lc d, zz_lr d, co) → wpX_endSession post (px, st, lf, cd, bg, gv, ob, ol, pb, pn, xp, fh, fl, fa, mk, cb, mi, mb, ml, pa, kb, kl, kc, th, pl, md, cr, hc, hg, hi, ib, il, it, qi, qc, gc, lc, lr, co) (nI s)) ∧
      (∀ {lf cd bg kc pb pn yp ki le go mk cb mb ml la ps pd pt kw kh kf kz ky wo be : Nat → Int32} {ma wr : Int32} (post : SY → Prop), post (zz_fr d, zz_en d, ma, wr, upd st s (nI 2), lf, cd, zz_ta d, upd bg s 0, upd kc s 0, zz_ob d, zz_ol d, pb, pn, upd yp s 0, ki, le, go, mk, cb, mb, upd ml s 0, la, ps, pd, upd pt s 0, kw, kh, kf, kz, ky, zz_th d, pl, md, cr, zz_gc d, zz_lc d, zz_lr d, zz_wh d, zz_od d, zz_tg d, zz_tr d, zz_so d, zz_bd d, wo, be) → wpY_ends post (fr, en, ma, wr, st, lf, cd, ta, bg, kc, ob, ol, pb, pn, yp, ki, le, go, mk, cb, mb, ml, la, ps, pd, pt, kw, kh, kf, kz, ky, th, pl, md, cr, gc, lc, lr, wh, od, tg, tr, so, bd, wo, be) (nI s)) := by
  obtain ⟨h1, h2, h3, h4, h5, h6, h7, h8⟩ := h
  obtain ⟨d, c1, r1, q1, q2, x1, y1⟩ := lk_ends (ob := ob) (gc := gc) (lc := lc) h1 h2 hB hs
  refine ⟨d, ⟨⟨c1, r1, bk_K_none h3 s, h4, h5, ?_, ?_, h8⟩, ?_⟩, q1, x1, y1⟩
  · intro z hz
    by_cases e : z = s
    · subst e; exact ⟨0, by omega, pk_us⟩
    · rw [pk_un e]; exact h6 z hz
  · intro z hz
    by_cases e : z = s
    · subst e; exact Or.inr q1
    · rw [pk_un e]
      rcases h7 z hz with w | w
      · exact Or.inl w
      · exact Or.inr (fun r hr er => by rw [q2 r (by omega)]; exact w r hr er)
  · intro z hz
    by_cases e : z = s
    · subst e; exact bk_F_zero pk_us pk_us pk_us pk_us pk_us
    · exact bk_F_of (hF z hz e) (pk_un e) (pk_un e) rfl rfl rfl (pk_un e) (pk_un e) rfl rfl rfl rfl rfl rfl (pk_un e)
theorem lk_S_give (h : bk_S B A g st ol th pl md cr lr gv ib il it qi qc ta wh od tg tr so bd fr en hc hg hi kc kb kl kw kh kf kz ky mk cb mb pb pn bg be ml xp fh fl fa mi yp ki le go la ps pd pt) (hB : B + 24 ≤ 100000000) :
    ∃ d : bk_DT, bk_S (B + 24) (zz_A d) (zz_g d) st (zz_ol d) (zz_th d) pl md cr (zz_lr d) (zz_gv d) (zz_ib d) (zz_il d) (zz_it d) (zz_qi d) (zz_qc d) (zz_ta d) (zz_wh d) (zz_od d) (zz_tg d) (zz_tr d) (zz_so d) (zz_bd d) (zz_fr d) (zz_en d) (zz_hc d) (zz_hg d) (zz_hi d) kc kb kl kw kh kf kz ky mk cb mb pb pn bg be ml xp fh fl fa mi yp ki le go la ps pd pt ∧ zz_th d = th ∧ (∀ {lf cd bg pb pn xp fh fl fa mk cb mi mb ml pa kb kl kc co : Nat → Int32} {px : Int32} (post : SX → Prop), post (px, st, lf, cd, bg, zz_gv d, zz_ob d, zz_ol d, pb, pn, xp, fh, fl, fa, mk, cb, mi, mb, ml, pa, kb, kl, kc, zz_th d, pl, md, cr, zz_hc d, zz_hg d, zz_hi d, zz_ib d, zz_il d, zz_it d, zz_qi d, zz_qc d, zz_gc d, zz_lc d, zz_lr d, co) → wpX_giveQueues post (px, st, lf, cd, bg, gv, ob, ol, pb, pn, xp, fh, fl, fa, mk, cb, mi, mb, ml, pa, kb, kl, kc, th, pl, md, cr, hc, hg, hi, ib, il, it, qi, qc, gc, lc, lr, co)) ∧ (∀ {lf cd bg kc pb pn yp ki le go mk cb mb ml la ps pd pt kw kh kf kz ky wo be : Nat → Int32} {ma wr : Int32} (post : SY → Prop), post (zz_fr d, zz_en d, ma, wr, st, lf, cd, zz_ta d, bg, kc, zz_ob d, zz_ol d, pb, pn, yp, ki, le, go, mk, cb, mb, ml, la, ps, pd, pt, kw, kh, kf, kz, ky, zz_th d, pl, md, cr, zz_gc d, zz_lc d, zz_lr d, zz_wh d, zz_od d, zz_tg d, zz_tr d, zz_so d, zz_bd d, wo, be) → wpY_giveAll post (fr, en, ma, wr, st, lf, cd, ta, bg, kc, ob, ol, pb, pn, yp, ki, le, go, mk, cb, mb, ml, la, ps, pd, pt, kw, kh, kf, kz, ky, th, pl, md, cr, gc, lc, lr, wh, od, tg, tr, so, bd, wo, be)) := by
  obtain ⟨⟨h1, h2, h3, h4, h5, h6, h7, h8⟩, hF⟩ := h
  obtain ⟨d, c1, r1, t1, x1, y1⟩ := lk_giveAll (ob := ob) (gc := gc) (lc := lc) h1 h2 hB
  exact ⟨d, ⟨⟨c1, r1, h3, h4, h5, h6, by rw [t1]; exact h7, h8⟩, hF⟩, t1, x1, y1⟩
theorem bk_S_mono (h : bk_S B A g st ol th pl md cr lr gv ib il it qi qc ta wh od tg tr so bd fr en hc hg hi kc kb kl kw kh kf kz ky mk cb mb pb pn bg be ml xp fh fl fa mi yp ki le go la ps pd pt) {B' : Nat} (hb : B ≤ B') : bk_S B' A g st ol th pl md cr lr gv ib il it qi qc ta wh od tg tr so bd fr en hc hg hi kc kb kl kw kh kf kz ky mk cb mb pb pn bg be ml xp fh fl fa mi yp ki le go la ps pd pt := by
  obtain ⟨⟨h1, h2⟩, hF⟩ := h
  exact ⟨⟨dk_mono h1 hb, h2⟩, hF⟩
end STATE
end
section
section CMDA
variable {st pl md cr : Nat → Int32}
theorem lk_cmdA {B : Nat} {A : Nat → List bk_E} {g : Nat → Nat} {ob : Nat → Int32} {ol : Nat → Int32} {gc : Nat → Int32} {lc : Nat → Int32} {lr : Nat → Int32} {gv : Nat → Int32} {th : Nat → Int32} {hc : Nat → Int32} {hg : Nat → Int32} {hi : Nat → Int32} {ib : Nat → Int32} {il : Nat → Int32} {it : Nat → Int32} {qi : Nat → Int32} {qc : Nat → Int32} {ta : Nat → Int32} {wh : Nat → Int32} {od : Nat → Int32} {tg : Nat → Int32} {tr : Nat → Int32} {so : Nat → Int32} {bd : Nat → Int32} {fr : Int32} {en : Int32} {bg kb kl kc kw kh kf kz ky : Nat → Int32} (h : bk_C B A g st ol th pl md cr lr gv ib il it qi qc ta wh od tg tr so bd fr en) (rh : bk_RH A hi hg hc) (K : ∀ z, z < 4 → bk_K kc kb kl kw kh kf kz ky z) (hbg : ∀ z, z < 4 → ∃ b, b < 4 ∧ bg z = nI b) (hB : B + 112 ≤ 100000000) {s m b c : Nat} {v : Nat → Nat} (hs : s < 4) (hm1 : 1 ≤ m) (hm : m ≤ 200) (hv : ∀ j, v j < 256) (hb : bg s = nI b) (hb4 : b < 4) (hc' : kc s = nI c) (hc6 : c ≤ 6) (valid : bk_Vd th s m b c v) :
    ∃ (d : bk_DT) (pl' md' cr' bg' kb' kl' kc' kw' kh' kf' kz' ky' : Nat → Int32), bk_C (B + 112) (zz_A d) (zz_g d) st (zz_ol d) (zz_th d) pl' md' cr' (zz_lr d) (zz_gv d) (zz_ib d) (zz_il d) (zz_it d) (zz_qi d) (zz_qc d) (zz_ta d) (zz_wh d) (zz_od d) (zz_tg d) (zz_tr d) (zz_so d) (zz_bd d) (zz_fr d) (zz_en d) ∧ bk_RH (zz_A d) (zz_hi d) (zz_hg d) (zz_hc d) ∧ (∀ z, z < 4 → bk_K kc' kb' kl' kw' kh' kf' kz' ky' z) ∧ (∀ z, z < 4 → ∃ b, b < 4 ∧ bg' z = nI b) ∧ (∀ r, r / 4 ≠ s → zz_th d r = th r) ∧
      (∀ {lf cd pb pn xp fh fl fa mk cb mi mb ml co : Nat → Int32} (pa : Nat → Int32) (post : SX → Prop), (∀ j, j < m → pa j = nI (v j)) → post (nI m, st, lf, cd, bg', zz_gv d, zz_ob d, zz_ol d, pb, pn, xp, fh, fl, fa, mk, cb, mi, mb, ml, pa, kb', kl', kc', zz_th d, pl', md', cr', zz_hc d, zz_hg d, zz_hi d, zz_ib d, zz_il d, zz_it d, zz_qi d, zz_qc d, zz_gc d, zz_lc d, zz_lr d, co) → wpX_doCommand post (nI m, st, lf, cd, bg, gv, ob, ol, pb, pn, xp, fh, fl, fa, mk, cb, mi, mb, ml, pa, kb, kl, kc, th, pl, md, cr, hc, hg, hi, ib, il, it, qi, qc, gc, lc, lr, co) (nI s)) ∧
      (∀ {lf cd pb pn yp ki le go mk cb mb ml la ps pd pt wo be : Nat → Int32} {wr : Int32}, (∀ j, j < m → wo j = nI (v j)) → ∃ wo' : Nat → Int32, ∀ (post : Int32 → SY → Prop), post 1 (zz_fr d, zz_en d, nI m, wr, st, lf, cd, zz_ta d, bg', kc', zz_ob d, zz_ol d, pb, pn, yp, ki, le, go, mk, cb, mb, ml, la, ps, pd, pt, kw', kh', kf', kz', ky', zz_th d, pl', md', cr', zz_gc d, zz_lc d, zz_lr d, zz_wh d, zz_od d, zz_tg d, zz_tr d, zz_so d, zz_bd d, wo', be) → wpY_command post (fr, en, nI m, wr, st, lf, cd, ta, bg, kc, ob, ol, pb, pn, yp, ki, le, go, mk, cb, mb, ml, la, ps, pd, pt, kw, kh, kf, kz, ky, th, pl, md, cr, gc, lc, lr, wh, od, tg, tr, so, bd, wo, be) (nI s)) := by
  have hv1 := hv 1
  rcases bk_code (v 0) with k | k | k | k | k | k | k | k | k | k
  · exact absurd valid (vd_0 k)
  · exact lk_cmd1 h rh K hbg hB hs hm1 hm hv hb hb4 hc' hc6 valid k
  · exact lk_cmd2 h rh K hbg hB hs hm1 hm hv hb hb4 hc' hc6 valid k
  · have z := (vd_3 k).mp valid
    exact lk_cmd3 h rh K hbg hB hs hm1 hm hv hb hb4 hc' hc6 valid ⟨by omega, by omega, z.2.2.2⟩ (Or.inl ⟨k, z.2.2.1, by omega, by omega⟩)
  · have z := (vd_4 k).mp valid
    exact lk_cmd3 h rh K hbg hB hs hm1 hm hv hb hb4 hc' hc6 valid ⟨by omega, by omega, z.2⟩ (Or.inr ⟨Or.inl k, by omega, by omega⟩)
  · have z := (vd_5 k).mp valid
    exact lk_cmd3 h rh K hbg hB hs hm1 hm hv hb hb4 hc' hc6 valid ⟨by omega, by omega, z.2⟩ (Or.inr ⟨Or.inr k, by omega, by omega⟩)
  · exact lk_cmd6 h rh K hbg hB hs hm1 hm hv hb hb4 hc' hc6 valid k
  · exact lk_cmd7 h rh K hbg hB hs hm1 hm hv hb hb4 hc' hc6 valid k
  · exact lk_cmd8 h rh K hbg hB hs hm1 hm hv hb hb4 hc' hc6 valid k
  · exact lk_cmd9 h rh K hbg hB hs hm1 hm hv hb hb4 hc' hc6 valid k
end CMDA
theorem bk_past_congr (pb pa wo : Nat → Int32) (s k m : Nat) (hk : k ≤ 64) (h : ∀ j, j < m → pa j = wo j) : bk_past pb pa s k m = bk_past pb wo s k m := by
  funext j
  unfold bk_past
  split
  · split
    · rfl
    · exact h _ (by omega)
  · rfl
section MSG
variable {B : Nat} {A : Nat → List bk_E} {g : Nat → Nat} {st lf cd bg gv ob ol pb pn xp fh fl fa mk cb mi mb ml pa kb kl kc th pl md cr hc hg hi ib il it qi qc gc lc lr co ta yp ki le go la ps pd pt kw kh kf kz ky wh od tg tr so bd wo be : Nat → Int32} {px fr en ma wr : Int32}
theorem xk_copy12 {post : SX → Prop} {s n : Nat} (hs : s < 4) (hn : n ≤ 200) (hp : post (nI n, st, lf, cd, bg, gv, ob, ol, pb, pn, xp, fh, fl, fa, mk, cb, mi, mb, ml, bk_mv pa 0 (fun k => mb (200 * s + k)) n, kb, kl, kc, th, pl, md, cr, hc, hg, hi, ib, il, it, qi, qc, gc, lc, lr, co)) :
    ∀ f k, k ≤ n → n - k < f → wX_copyMessage_12 post (nI s) (nI n) f (nI k) st lf cd bg gv ob ol pb pn xp fh fl fa mk cb mi mb ml (bk_mv pa 0 (fun k => mb (200 * s + k)) k) kb kl kc th pl md cr hc hg hi ib il it qi qc gc lc lr co
  | 0, k, _, h => by omega
  | f + 1, k, h1, h2 => by
    have e1 : nI s * 200 + nI k = nI (200 * s + k) := by rw [bn_mul, nI_add, Nat.mul_comm]
    have c1 : (nI (200 * s + k)).toNatClampNeg = 200 * s + k := nI_clamp (by omega)
    have ck : (nI k).toNatClampNeg = k := nI_clamp (by omega)
    have ih := fun g => xk_copy12 hs hn hp f (k + 1) g (by omega)
    rw [bk_mv, Nat.zero_add] at ih
    refine pk_le n k (fun g => ?_) (fun g => ?_)
    · have : k = n := by omega
      subst this
      exact hp
    · rw [e1, c1, ck]
      exact ⟨vp_in_nI (by omega) (by omega), vp_in_nI (by omega) (by omega), nm_e (nm_r (nI_1 k) (ih (by omega)))⟩
theorem yk_copy41 {post : SY → Prop} {s n : Nat} (hs : s < 4) (hn : n ≤ 200) (hpd : pd s = 0) (hp : wY_message_77 post (nI s) fr en (nI n) 0 st lf cd ta bg kc ob ol pb pn yp ki le go mk cb mb ml la ps pd pt kw kh kf kz ky th pl md cr gc lc lr wh od tg tr so bd (bk_mv wo 0 (fun k => mb (200 * s + k)) n) be) :
    ∀ f k, k ≤ n → n - k < f → wY_message_41 post (nI s) (nI n) f (nI k) fr en (nI k) 0 st lf cd ta bg kc ob ol pb pn yp ki le go mk cb mb ml la ps pd pt kw kh kf kz ky th pl md cr gc lc lr wh od tg tr so bd (bk_mv wo 0 (fun k => mb (200 * s + k)) k) be
  | 0, k, _, h => by omega
  | f + 1, k, h1, h2 => by
    have cs : (nI s).toNatClampNeg = s := nI_clamp (by omega)
    have e1 : 200 * nI s + nI k = nI (200 * s + k) := by rw [bn_mul2, nI_add]
    have c1 : (nI (200 * s + k)).toNatClampNeg = 200 * s + k := nI_clamp (by omega)
    have ck : (nI k).toNatClampNeg = k := nI_clamp (by omega)
    have ih := fun g => yk_copy41 hs hn hpd hp f (k + 1) g (by omega)
    rw [bk_mv, Nat.zero_add] at ih
    refine pk_le n k (fun g => ?_) (fun g => ⟨pk_in s 4 hs, ?_⟩)
    · have : k = n := by omega
      subst this
      exact hp
    · rw [cs, hpd, e1, c1]
      refine br_t rfl ⟨vp_in_nI (by omega) (by omega), br_f (fun z => by have := (nI_eq (a := k) (b := 200) (by omega) (by omega)).mp z; omega) (br_t (by decide) ⟨vp_in_nI (by omega) (by omega), ?_⟩)⟩
      rw [ck]
      exact nm_e (nm_r (nI_1 k) (nm_r (nI_1 k) (ih (by omega))))
/-- the message as it is unpacked, on both sides -/
theorem lk_plain {s n : Nat} (hs : s < 4) (hn : n ≤ 200) (hml : ml s = nI n) (hmb : bk_By mb) (hpb : bk_By pb) (hpn : ∃ a, a ≤ 64 ∧ pn s = nI a) (hk : (mi s = 2 ∧ pd s = 1) ∨ (mi s ≠ 2 ∧ pd s = 0)) :
    ∃ (e m : Nat) (pa1 wo1 : Nat → Int32), (e = 0 ∨ e = 7 ∨ e = 9) ∧ m ≤ 200 ∧ bk_Ag m pa1 wo1 ∧
      (∀ (post : Int32 → SX → Prop), wX_finishMessage_26 post (nI s) (nI e) (nI m) st lf cd bg gv ob ol pb pn xp fh fl fa mk cb mi mb ml pa1 kb kl kc th pl md cr hc hg hi ib il it qi qc gc lc lr co → wpX_finishMessage post (px, st, lf, cd, bg, gv, ob, ol, pb, pn, xp, fh, fl, fa, mk, cb, mi, mb, ml, pa, kb, kl, kc, th, pl, md, cr, hc, hg, hi, ib, il, it, qi, qc, gc, lc, lr, co) (nI s)) ∧
      (∀ (post : SY → Prop), wY_message_77 post (nI s) fr en (nI m) (nI e) st lf cd ta bg kc ob ol pb pn yp ki le go mk cb mb (upd ml s 0) la ps pd pt kw kh kf kz ky th pl md cr gc lc lr wh od tg tr so bd wo1 be → wpY_message post (fr, en, ma, wr, st, lf, cd, ta, bg, kc, ob, ol, pb, pn, yp, ki, le, go, mk, cb, mb, ml, la, ps, pd, pt, kw, kh, kf, kz, ky, th, pl, md, cr, gc, lc, lr, wh, od, tg, tr, so, bd, wo, be) (nI s)) := by
  have cs : (nI s).toNatClampNeg = s := nI_clamp (by omega)
  have i4 : vp_in (nI s) 4 := pk_in s 4 hs
  obtain ⟨k0, hk0, ek0⟩ := hpn
  have hw : ∃ w : Nat → Nat, (∀ j, w j < 256) ∧ ∀ j, mb (200 * s + j) = nI (w j) := by
    refine ⟨fun j => (mb (200 * s + j)).toNatClampNeg % 256, fun j => Nat.mod_lt _ (by omega), fun j => ?_⟩
    obtain ⟨v, hv, e⟩ := hmb (200 * s + j)
    dsimp only
    rw [e, nI_clamp (by omega), Nat.mod_eq_of_lt hv]
  obtain ⟨w, hw2, hw1⟩ := hw
  rcases hk with ⟨k1, k2⟩ | ⟨k1, k2⟩
  · obtain ⟨e, m, pa1, wo1, he, hm, ag, x1, y1, _⟩ := lk_unp (st := st) (lf := lf) (cd := cd) (bg := bg) (gv := gv) (ob := ob) (ol := ol) (pb := pb) (pn := pn) (xp := xp) (fh := fh) (fl := fl) (fa := fa) (mk := mk) (cb := cb) (mi := mi) (mb := mb) (ml := ml) (kb := kb) (kl := kl) (kc := kc) (th := th) (pl := pl) (md := md) (cr := cr) (hc := hc) (hg := hg) (hi := hi) (ib := ib) (il := il) (it := it) (qi := qi) (qc := qc) (gc := gc) (lc := lc) (lr := lr) (co := co) (fr := fr) (en := en) (ta := ta) (yp := yp) (ki := ki) (le := le) (go := go) (la := la) (ps := ps) (pd := pd) (pt := pt) (kw := kw) (kh := kh) (kf := kf) (kz := kz) (ky := ky) (wh := wh) (od := od) (tg := tg) (tr := tr) (so := so) (bd := bd) (be := be) (mly := upd ml s 0) (n := n) (w := w) hs hn hk0 ek0 hpb (fun j _ => hw1 j) hw2 n 0 pa wo 0 (Nat.le_refl _) (by omega) (by omega) (fun j hj => absurd hj (Nat.not_lt_zero j))
    simp only [Nat.sub_self] at x1 y1
    refine ⟨e, m, pa1, wo1, he, hm, ag, ?_, ?_⟩
    · intro post hp
      refine ⟨i4, ?_⟩
      rw [cs]
      refine br_t k1 ⟨i4, ?_⟩
      rw [cs, hml]
      exact nm_e ⟨n + 1, x1 _ (n + 1) (by omega) hp⟩
    · intro post hp
      refine ⟨i4, ?_⟩
      rw [cs, hml, k2]
      refine nm_e ⟨i4, nm_e ⟨i4, br_f (by decide) ⟨n + 1, y1 trivial _ (n + 1) (by omega) ⟨1, ?_⟩⟩⟩⟩
      refine br_c (fun _ => hp) (fun _ => ⟨i4, ?_⟩)
      rw [cs, k2]
      exact br_f (by decide) hp
  · refine ⟨0, n, bk_mv pa 0 (fun k => mb (200 * s + k)) n, bk_mv wo 0 (fun k => mb (200 * s + k)) n, Or.inl rfl, hn, ?_, ?_, ?_⟩
    · intro j hj
      have z1 := bk_mv_i pa 0 (fun k => mb (200 * s + k)) n j hj
      have z2 := bk_mv_i wo 0 (fun k => mb (200 * s + k)) n j hj
      rw [Nat.zero_add] at z1 z2
      exact ⟨w j, hw2 j, z1.trans (hw1 j), z2.trans (hw1 j)⟩
    · intro post hp
      refine ⟨i4, ?_⟩
      rw [cs]
      refine br_f k1 ⟨i4, ?_⟩
      rw [cs, hml]
      exact nm_e ⟨n + 1, xk_copy12 hs hn hp (n + 1) 0 (by omega) (by omega)⟩
    · intro post hp
      refine ⟨i4, ?_⟩
      rw [cs, hml, k2]
      exact nm_e ⟨i4, nm_e ⟨i4, br_t rfl ⟨n + 1, yk_copy41 (ml := upd ml s 0) hs hn k2 hp (n + 1) 0 (by omega) (by omega)⟩⟩⟩
end MSG
end
section
section MSG2
variable {B : Nat} {A : Nat → List bk_E} {g : Nat → Nat} {st lf cd bg gv ob ol pb pn xp fh fl fa mk cb mi mb ml pa kb kl kc th pl md cr hc hg hi ib il it qi qc gc lc lr co ta yp ki le go la ps pd pt kw kh kf kz ky wh od tg tr so bd wo be : Nat → Int32} {px fr en ma wr : Int32}
/-- Y: all bytes become part of the past, then the command -/
theorem yk_m96 {post : SY → Prop} {s k m : Nat} {pb0 pn0 : Nat → Int32} (hs : s < 4) (hk : k ≤ 64) (hm : m ≤ 200)
    (hend : ∀ f, wY_message_96 post (nI s) (f + 1) (nI m) fr en (nI m) wr st lf cd ta bg kc ob ol (bk_past pb0 wo s k m) (upd pn0 s (nI (min 64 (k + m)))) yp ki le go mk cb mb ml la ps pd pt kw kh kf kz ky th pl md cr gc lc lr wh od tg tr so bd wo be) :
    ∀ f i, i ≤ m → m - i < f → wY_message_96 post (nI s) f (nI i) fr en (nI m) wr st lf cd ta bg kc ob ol (bk_past pb0 wo s k i) (upd pn0 s (nI (min 64 (k + i)))) yp ki le go mk cb mb ml la ps pd pt kw kh kf kz ky th pl md cr gc lc lr wh od tg tr so bd wo be
  | 0, i, _, h => by omega
  | f + 1, i, h1, h2 => by
    by_cases e : i = m
    · subst e; exact hend f
    · have ci : (nI i).toNatClampNeg = i := nI_clamp (by omega)
      refine br_f (nI_ge (by omega) (by omega)) ?_
      rw [ci]
      refine ⟨vp_in_nI (by omega) (by omega), yk_remember hs hk (nm_r (nI_1 i) ?_)⟩
      exact yk_m96 hs hk hm hend f (i + 1) (by omega) (by omega)
theorem lk_msg (h : bk_S0 B A g st ol th pl md cr lr gv ib il it qi qc ta wh od tg tr so bd fr en hc hg hi kc kb kl kw kh kf kz ky mk cb mb pb pn bg be) {s n : Nat} (hs : s < 4) (hF : ∀ z, z < 4 → z ≠ s → bk_F ml xp fh fl fa mi yp ki le go la ps pd pt z) (hn : n ≤ 200) (hml : ml s = nI n) (hx0 : xp s = 0) (hy0 : yp s = 0) (hpt : pt s = 0) (hst : st s = 1) (hk : (mi s = 2 ∧ pd s = 1) ∨ (mi s ≠ 2 ∧ pd s = 0)) (hB : B + 132 ≤ 100000000) :
    ∃ (A' : Nat → List bk_E) (g' : Nat → Nat) (px' : Int32) (st' : Nat → Int32) (lf' : Nat → Int32) (cd' : Nat → Int32) (bg' : Nat → Int32) (gv' : Nat → Int32) (ob' : Nat → Int32) (ol' : Nat → Int32) (pb' : Nat → Int32) (pn' : Nat → Int32) (xp' : Nat → Int32) (fh' : Nat → Int32) (fl' : Nat → Int32) (fa' : Nat → Int32) (mk' : Nat → Int32) (cb' : Nat → Int32) (mi' : Nat → Int32) (mb' : Nat → Int32) (ml' : Nat → Int32) (pa' : Nat → Int32) (kb' : Nat → Int32) (kl' : Nat → Int32) (kc' : Nat → Int32) (th' : Nat → Int32) (pl' : Nat → Int32) (md' : Nat → Int32) (cr' : Nat → Int32) (hc' : Nat → Int32) (hg' : Nat → Int32) (hi' : Nat → Int32) (ib' : Nat → Int32) (il' : Nat → Int32) (it' : Nat → Int32) (qi' : Nat → Int32) (qc' : Nat → Int32) (gc' : Nat → Int32) (lc' : Nat → Int32) (lr' : Nat → Int32) (co' : Nat → Int32) (fr' : Int32) (en' : Int32) (ma' : Int32) (wr' : Int32) (ta' : Nat → Int32) (yp' : Nat → Int32) (ki' : Nat → Int32) (le' : Nat → Int32) (go' : Nat → Int32) (la' : Nat → Int32) (ps' : Nat → Int32) (pd' : Nat → Int32) (pt' : Nat → Int32) (kw' : Nat → Int32) (kh' : Nat → Int32) (kf' : Nat → Int32) (kz' : Nat → Int32) (ky' : Nat → Int32) (wh' : Nat → Int32) (od' : Nat → Int32) (tg' : Nat → Int32) (tr' : Nat → Int32) (so' : Nat → Int32) (bd' : Nat → Int32) (wo' : Nat → Int32) (be' : Nat → Int32), bk_S (B + 132) A' g' st' ol' th' pl' md' cr' lr' gv' ib' il' it' qi' qc' ta' wh' od' tg' tr' so' bd' fr' en' hc' hg' hi' kc' kb' kl' kw' kh' kf' kz' ky' mk' cb' mb' pb' pn' bg' be' ml' xp' fh' fl' fa' mi' yp' ki' le' go' la' ps' pd' pt' ∧
      (∀ (post : Int32 → SX → Prop) (J39 : Int32 → Int32 → Int32 → (Nat → Int32) → (Nat → Int32) → (Nat → Int32) → (Nat → Int32) → (Nat → Int32) → (Nat → Int32) → (Nat → Int32) → (Nat → Int32) → (Nat → Int32) → (Nat → Int32) → (Nat → Int32) → (Nat → Int32) → (Nat → Int32) → (Nat → Int32) → (Nat → Int32) → (Nat → Int32) → (Nat → Int32) → (Nat → Int32) → (Nat → Int32) → (Nat → Int32) → (Nat → Int32) → (Nat → Int32) → (Nat → Int32) → (Nat → Int32) → (Nat → Int32) → (Nat → Int32) → (Nat → Int32) → (Nat → Int32) → (Nat → Int32) → (Nat → Int32) → (Nat → Int32) → (Nat → Int32) → (Nat → Int32) → (Nat → Int32) → (Nat → Int32) → (Nat → Int32) → (Nat → Int32) → (Nat → Int32) → Prop) (x2 : Int64) (x4 x5 x6 : Int32), wX_feed_135 post J39 (nI s) x2 x4 x5 x6 px' st' lf' cd' bg' gv' ob' ol' pb' pn' xp' fh' fl' fa' mk' cb' mi' mb' ml' pa' kb' kl' kc' th' pl' md' cr' hc' hg' hi' ib' il' it' qi' qc' gc' lc' lr' co' → wpX_finishMessage (fun r u => match u with | (px, st, lf, cd, bg, gv, ob, ol, pb, pn, xp, fh, fl, fa, mk, cb, mi, mb, ml, pa, kb, kl, kc, th, pl, md, cr, hc, hg, hi, ib, il, it, qi, qc, gc, lc, lr, co) => wX_feed_93 post J39 (nI s) x2 x4 x5 x6 r px st lf cd bg gv ob ol pb pn xp fh fl fa mk cb mi mb ml pa kb kl kc th pl md cr hc hg hi ib il it qi qc gc lc lr co) (px, st, lf, cd, bg, gv, ob, ol, pb, pn, xp, fh, fl, fa, mk, cb, mi, mb, ml, pa, kb, kl, kc, th, pl, md, cr, hc, hg, hi, ib, il, it, qi, qc, gc, lc, lr, co) (nI s)) ∧
      (∀ (post : SY → Prop), post (fr', en', ma', wr', st', lf', cd', ta', bg', kc', ob', ol', pb', pn', yp', ki', le', go', mk', cb', mb', ml', la', ps', pd', pt', kw', kh', kf', kz', ky', th', pl', md', cr', gc', lc', lr', wh', od', tg', tr', so', bd', wo', be') → wpY_message post (fr, en, ma, wr, st, lf, cd, ta, bg, kc, ob, ol, pb, pn, yp, ki, le, go, mk, cb, mb, ml, la, ps, pd, pt, kw, kh, kf, kz, ky, th, pl, md, cr, gc, lc, lr, wh, od, tg, tr, so, bd, wo, be) (nI s)) := by
  have cs : (nI s).toNatClampNeg = s := nI_clamp (by omega)
  have i4 : vp_in (nI s) 4 := pk_in s 4 hs
  obtain ⟨k0, hk0, ek0⟩ := h.2.2.2.2.1 s hs
  obtain ⟨e, m, pa1, wo1, he, hm, ag, x1, y1⟩ := lk_plain (px := px) (st := st) (lf := lf) (cd := cd) (bg := bg) (gv := gv) (ob := ob) (ol := ol) (pb := pb) (pn := pn) (xp := xp) (fh := fh) (fl := fl) (fa := fa) (mk := mk) (cb := cb) (mi := mi) (mb := mb) (ml := ml) (pa := pa) (kb := kb) (kl := kl) (kc := kc) (th := th) (pl := pl) (md := md) (cr := cr) (hc := hc) (hg := hg) (hi := hi) (ib := ib) (il := il) (it := it) (qi := qi) (qc := qc) (gc := gc) (lc := lc) (lr := lr) (co := co) (fr := fr) (en := en) (ma := ma) (wr := wr) (ta := ta) (yp := yp) (ki := ki) (le := le) (go := go) (la := la) (ps := ps) (pd := pd) (pt := pt) (kw := kw) (kh := kh) (kf := kf) (kz := kz) (ky := ky) (wh := wh) (od := od) (tg := tg) (tr := tr) (so := so) (bd := bd) (wo := wo) (be := be) hs hn hml h.2.2.2.1.2.2.1 h.2.2.2.1.2.2.2 ⟨k0, hk0, ek0⟩ hk
  have hF' : ∀ z, z < 4 → z ≠ s → bk_F (upd ml s 0) xp fh fl fa (upd mi s 0) yp ki le go la ps pd pt z := fun z hz ne => bk_F_of (hF z hz ne) (pk_un ne) rfl rfl rfl rfl (pk_un ne) rfl rfl rfl rfl rfl rfl rfl rfl
  by_cases e0 : e = 0
  rotate_left
  · -- it can't be unpacked
    obtain ⟨d, hS, xf, yf⟩ := lk_S_fault (gv := gv) (ob := ob) (ol := ol) (th := th) (pl := pl) (md := md) (cr := cr) (hc := hc) (hg := hg) (hi := hi) (ib := ib) (il := il) (it := it) (qi := qi) (qc := qc) (gc := gc) (lc := lc) (lr := lr) (fr := fr) (en := en) (ta := ta) (wh := wh) (od := od) (tg := tg) (tr := tr) (so := so) (bd := bd) (st := st) (bg := bg) (kc := kc) (pb := pb) (pn := pn) (yp := yp) (ki := ki) (le := le) (go := go) (mk := mk) (cb := cb) (mb := mb) (la := la) (ps := ps) (pd := pd) (pt := pt) (kw := kw) (kh := kh) (kf := kf) (kz := kz) (ky := ky) (be := be) (xp := xp) (fh := fh) (fl := fl) (fa := fa) (kb := kb) (kl := kl) (mi := upd mi s 0) (ml := upd ml s 0) h hs hF' (by omega) (nI e)
    rw [bk_uu, bk_uu] at hS
    refine ⟨zz_A d, zz_g d, nI m, upd st s (nI 2), upd lf s (nI e), cd, upd bg s 0, zz_gv d, zz_ob d, zz_ol d, pb, pn, upd xp s 0, fh, fl, fa, mk, cb, upd mi s 0, mb, upd ml s 0, pa1, kb, kl, upd kc s 0, zz_th d, pl, md, cr, zz_hc d, zz_hg d, zz_hi d, zz_ib d, zz_il d, zz_it d, zz_qi d, zz_qc d, zz_gc d, zz_lc d, zz_lr d, co, zz_fr d, zz_en d, nI m, nI e, zz_ta d, upd yp s 0, ki, le, go, la, ps, pd, upd pt s 0, kw, kh, kf, kz, ky, zz_wh d, zz_od d, zz_tg d, zz_tr d, zz_so d, zz_bd d, upd wo1 0 (nI e), be, bk_S_mono hS (by omega), ?_, ?_⟩
    · intro post J39 x2 x4 x5 x6 hp
      refine x1 _ ⟨i4, ?_⟩
      rw [cs]
      refine nm_e ⟨i4, nm_e (br_f (nI_ne0 (by omega) (by omega)) ?_)⟩
      refine br_f (fun z => by have := (nI_eq (a := e) (b := 17) (by omega) (by omega)).mp z; omega) (br_f (fun z => by have := (nI_eq (a := e) (b := 18) (by omega) (by omega)).mp z; omega) (br_f (nI_ne0 (by omega) (by omega)) (xf _ ?_)))
      rw [bk_uu, bk_uu]
      exact hp
    · intro post hp
      refine y1 _ (br_f (nI_nle (by omega) (by omega)) (yf _ ?_))
      rw [bk_uu]
      exact hp
  · subst e0
    have hv : ∃ v : Nat → Nat, (∀ j, v j < 256) ∧ (∀ j, j < m → pa1 j = nI (v j)) ∧ ∀ j, j < m → wo1 j = nI (v j) := by
      refine ⟨fun j => (pa1 j).toNatClampNeg % 256, fun j => Nat.mod_lt _ (by omega), fun j hj => ?_, fun j hj => ?_⟩
      · obtain ⟨v, hv, e1, e2⟩ := ag j hj
        dsimp only
        rw [e1, nI_clamp (by omega), Nat.mod_eq_of_lt hv]
      · obtain ⟨v, hv, e1, e2⟩ := ag j hj
        dsimp only
        rw [e1, nI_clamp (by omega), Nat.mod_eq_of_lt hv]
        exact e2
    obtain ⟨v, hv2, hpa, hwo⟩ := hv
    obtain ⟨b, hb4, hb⟩ := h.2.2.2.2.2.1 s hs
    obtain ⟨c, hc6, hc', _⟩ := h.2.2.1 s hs
    have pbE : bk_past pb pa1 s k0 m = bk_past pb wo1 s k0 m := bk_past_congr pb pa1 wo1 s k0 m hk0 (fun j hj => (hpa j hj).trans (hwo j hj).symm)
    have hS0 : bk_S0 B A g st ol th pl md cr lr gv ib il it qi qc ta wh od tg tr so bd fr en hc hg hi kc kb kl kw kh kf kz ky mk cb mb (bk_past pb wo1 s k0 m) (upd pn s (nI (min 64 (k0 + m)))) bg be := by
      obtain ⟨h1, h2, h3, ⟨b1, b2, b3, b4⟩, h5, h6, h7, h8⟩ := h
      refine ⟨h1, h2, h3, ⟨b1, b2, b3, bk_By_past b4 (fun j hj => ⟨v j, hv2 j, hwo j hj⟩) hk0⟩, fun z hz => ?_, h6, h7, h8⟩
      by_cases ez : z = s
      · subst ez; exact ⟨_, by omega, pk_us⟩
      · rw [pk_un ez]; exact h5 z hz
    -- X's and Y's ways to the command
    have xw : ∀ (post : Int32 → SX → Prop), wpX_isCommand (fun r => (((r = 0 → (post 8 (nI m, st, lf, cd, bg, gv, ob, ol, bk_past pb wo1 s k0 m, upd pn s (nI (min 64 (k0 + m))), xp, fh, fl, fa, mk, cb, upd mi s 0, mb, upd ml s 0, pa1, kb, kl, kc, th, pl, md, cr, hc, hg, hi, ib, il, it, qi, qc, gc, lc, lr, co))) ∧ (¬ r = 0 → (vp_in (nI s) 4 ∧ (vp_in (nI s) 4 ∧ ∀ y, y = upd cd s (cd s + 1) → (post 17 (nI m, st, lf, y, bg, gv, ob, ol, bk_past pb wo1 s k0 m, upd pn s (nI (min 64 (k0 + m))), xp, fh, fl, fa, mk, cb, upd mi s 0, mb, upd ml s 0, pa1, kb, kl, kc, th, pl, md, cr, hc, hg, hi, ib, il, it, qi, qc, gc, lc, lr, co)))))))) (nI m, st, lf, cd, bg, gv, ob, ol, bk_past pb wo1 s k0 m, upd pn s (nI (min 64 (k0 + m))), xp, fh, fl, fa, mk, cb, upd mi s 0, mb, upd ml s 0, pa1, kb, kl, kc, th, pl, md, cr, hc, hg, hi, ib, il, it, qi, qc, gc, lc, lr, co) (nI s) → wpX_finishMessage post (px, st, lf, cd, bg, gv, ob, ol, pb, pn, xp, fh, fl, fa, mk, cb, mi, mb, ml, pa, kb, kl, kc, th, pl, md, cr, hc, hg, hi, ib, il, it, qi, qc, gc, lc, lr, co) (nI s) := by
      intro post hp
      refine x1 post ⟨i4, ?_⟩
      rw [cs]
      refine nm_e ⟨i4, nm_e (br_t rfl (xk_remember hs hk0 hm ek0 ?_))⟩
      rw [pbE]
      exact hp
    have yw : ∀ (post : SY → Prop), (m = 0 → wY_message_140 post (nI s) fr en (nI m) 0 st lf cd ta bg kc ob ol (bk_past pb wo1 s k0 m) (upd pn s (nI (min 64 (k0 + m)))) yp ki le go mk cb mb (upd ml s 0) la ps pd pt kw kh kf kz ky th pl md cr gc lc lr wh od tg tr so bd wo1 be) → (1 ≤ m → wpY_command (fun r u => match u with | (fr, en, ma, wr, st, lf, cd, ta, bg, kc, ob, ol, pb, pn, yp, ki, le, go, mk, cb, mb, ml, la, ps, pd, pt, kw, kh, kf, kz, ky, th, pl, md, cr, gc, lc, lr, wh, od, tg, tr, so, bd, wo, be) => (((r = 0 → (wY_message_140 post (nI s) fr en ma wr st lf cd ta bg kc ob ol pb pn yp ki le go mk cb mb ml la ps pd pt kw kh kf kz ky th pl md cr gc lc lr wh od tg tr so bd wo be)) ∧ (¬ r = 0 → (wY_message_141 post (nI s) 1 fr en ma wr st lf cd ta bg kc ob ol pb pn yp ki le go mk cb mb ml la ps pd pt kw kh kf kz ky th pl md cr gc lc lr wh od tg tr so bd wo be))))) (fr, en, nI m, 0, st, lf, cd, ta, bg, kc, ob, ol, bk_past pb wo1 s k0 m, upd pn s (nI (min 64 (k0 + m))), yp, ki, le, go, mk, cb, mb, upd ml s 0, la, ps, pd, pt, kw, kh, kf, kz, ky, th, pl, md, cr, gc, lc, lr, wh, od, tg, tr, so, bd, wo1, be) (nI s)) → wpY_message post (fr, en, ma, wr, st, lf, cd, ta, bg, kc, ob, ol, pb, pn, yp, ki, le, go, mk, cb, mb, ml, la, ps, pd, pt, kw, kh, kf, kz, ky, th, pl, md, cr, gc, lc, lr, wh, od, tg, tr, so, bd, wo, be) (nI s) := by
      intro post hp0 hp1
      refine y1 post (br_t (by decide) ⟨m + 1, ?_⟩)
      have w := yk_m96 (post := post) (wo := wo1) (ml := upd ml s 0) (wr := 0) (st := st) (lf := lf) (cd := cd) (bg := bg) (ob := ob) (ol := ol) (mk := mk) (cb := cb) (mb := mb) (kc := kc) (th := th) (pl := pl) (md := md) (cr := cr) (gc := gc) (lc := lc) (lr := lr) (fr := fr) (en := en) (ta := ta) (yp := yp) (ki := ki) (le := le) (go := go) (la := la) (ps := ps) (pd := pd) (pt := pt) (kw := kw) (kh := kh) (kf := kf) (kz := kz) (ky := ky) (wh := wh) (od := od) (tg := tg) (tr := tr) (so := so) (bd := bd) (be := be) (pb0 := pb) (pn0 := pn) hs hk0 hm (fun f => by
        refine br_t (nI_le (Nat.le_refl _) (by omega)) ?_
        exact pk_le m 0 (fun g => hp0 (by omega)) (fun g => hp1 (by omega))) (m + 1) 0 (by omega) (by omega)
      rw [bk_past0 pb wo1 s k0 hk0, show min 64 (k0 + 0) = k0 by omega, bk_uid pn s _ ek0] at w
      exact w
    by_cases ok : 1 ≤ m ∧ bk_Vd th s m b c v
    rotate_left
    · -- FAULT 8
      obtain ⟨d, hS, xf, yf⟩ := lk_S_fault (st := st) (bg := bg) (gv := gv) (ob := ob) (ol := ol) (xp := xp) (fh := fh) (fl := fl) (fa := fa) (mk := mk) (cb := cb) (mb := mb) (kb := kb) (kl := kl) (kc := kc) (th := th) (pl := pl) (md := md) (cr := cr) (hc := hc) (hg := hg) (hi := hi) (ib := ib) (il := il) (it := it) (qi := qi) (qc := qc) (gc := gc) (lc := lc) (lr := lr) (fr := fr) (en := en) (ta := ta) (yp := yp) (ki := ki) (le := le) (go := go) (la := la) (ps := ps) (pd := pd) (pt := pt) (kw := kw) (kh := kh) (kf := kf) (kz := kz) (ky := ky) (wh := wh) (od := od) (tg := tg) (tr := tr) (so := so) (bd := bd) (be := be) (mi := upd mi s 0) (ml := upd ml s 0) (pb := bk_past pb wo1 s k0 m) (pn := upd pn s (nI (min 64 (k0 + m)))) hS0 hs hF' (by omega) 8
      rw [bk_uu, bk_uu] at hS
      refine ⟨zz_A d, zz_g d, nI m, upd st s (nI 2), upd lf s 8, cd, upd bg s 0, zz_gv d, zz_ob d, zz_ol d, bk_past pb wo1 s k0 m, upd pn s (nI (min 64 (k0 + m))), upd xp s 0, fh, fl, fa, mk, cb, upd mi s 0, mb, upd ml s 0, pa1, kb, kl, upd kc s 0, zz_th d, pl, md, cr, zz_hc d, zz_hg d, zz_hi d, zz_ib d, zz_il d, zz_it d, zz_qi d, zz_qc d, zz_gc d, zz_lc d, zz_lr d, co, zz_fr d, zz_en d, nI m, 0, zz_ta d, upd yp s 0, ki, le, go, la, ps, pd, upd pt s 0, kw, kh, kf, kz, ky, zz_wh d, zz_od d, zz_tg d, zz_tr d, zz_so d, zz_bd d, upd wo1 0 8, be, bk_S_mono hS (by omega), ?_, ?_⟩
      · intro post J39 x2 x4 x5 x6 hp
        refine xw _ (xk_isCommand hs hm hv2 hpa hb hb4 hc' hc6 (fun q1 q2 => absurd ⟨q1, q2⟩ ok) (fun _ => br_t rfl ?_))
        refine br_f (by decide) (br_f (by decide) (br_f (by decide) (xf _ ?_)))
        rw [bk_uu, bk_uu]
        exact hp
      · intro post hp
        have fin : wY_message_140 post (nI s) fr en (nI m) 0 st lf cd ta bg kc ob ol (bk_past pb wo1 s k0 m) (upd pn s (nI (min 64 (k0 + m)))) yp ki le go mk cb mb (upd ml s 0) la ps pd pt kw kh kf kz ky th pl md cr gc lc lr wh od tg tr so bd wo1 be := by
          refine br_t rfl (yf _ ?_)
          rw [bk_uu]
          exact hp
        refine yw post (fun _ => fin) (fun q1 => yk_command hs q1 hm hv2 hwo hb hb4 hc' hc6 (fun _ => br_t rfl fin) (fun z => absurd ⟨q1, z⟩ ok) (fun z => absurd ⟨q1, z⟩ ok) (fun z => absurd ⟨q1, z⟩ ok) (fun z => absurd ⟨q1, z⟩ ok) (fun z => absurd ⟨q1, z⟩ ok) (fun z => absurd ⟨q1, z⟩ ok) (fun z => absurd ⟨q1, z⟩ ok) (fun z => absurd ⟨q1, z⟩ ok))
    · obtain ⟨q1, valid⟩ := ok
      obtain ⟨h1, h2, h3, h4, h5, h6, h7, h8⟩ := hS0
      obtain ⟨d, pl', md', cr', bg', kb', kl', kc', kw', kh', kf', kz', ky', c1, r1, K1, bg1, t1, xc, yc⟩ := lk_cmdA (ob := ob) (gc := gc) (lc := lc) h1 h2 h3 h6 (by omega) hs q1 hm hv2 hb hb4 hc' hc6 valid
      obtain ⟨wo2, yc⟩ := yc (lf := lf) (cd := cd) (pb := bk_past pb wo1 s k0 m) (pn := upd pn s (nI (min 64 (k0 + m)))) (yp := yp) (ki := ki) (le := le) (go := go) (mk := mk) (cb := cb) (mb := mb) (ml := upd ml s 0) (la := la) (ps := ps) (pd := pd) (pt := pt) (wo := wo1) (be := be) (wr := 0) hwo
      refine ⟨zz_A d, zz_g d, nI m, st, lf, upd cd s (cd s + 1), bg', zz_gv d, zz_ob d, zz_ol d, bk_past pb wo1 s k0 m, upd pn s (nI (min 64 (k0 + m))), xp, fh, fl, fa, mk, cb, upd mi s 0, mb, upd ml s 0, pa1, kb', kl', kc', zz_th d, pl', md', cr', zz_hc d, zz_hg d, zz_hi d, zz_ib d, zz_il d, zz_it d, zz_qi d, zz_qc d, zz_gc d, zz_lc d, zz_lr d, co, zz_fr d, zz_en d, nI m, 0, zz_ta d, yp, ki, le, go, la, ps, pd, pt, kw', kh', kf', kz', ky', zz_wh d, zz_od d, zz_tg d, zz_tr d, zz_so d, zz_bd d, wo2, be, ⟨⟨dk_mono c1 (by omega), r1, K1, h4, h5, bg1, ?_, h8⟩, ?_⟩, ?_, ?_⟩
      · intro z hz
        by_cases ez : z = s
        · subst ez; exact Or.inl hst
        · rcases h7 z hz with w | w
          · exact Or.inl w
          · exact Or.inr (fun r hr er => by rw [t1 r (by omega)]; exact w r hr er)
      · intro z hz
        by_cases ez : z = s
        · subst ez
          exact bk_F_zero pk_us hx0 hy0 pk_us hpt
        · exact hF' z hz ez
      · intro post J39 x2 x4 x5 x6 hp
        refine xw _ (xk_isCommand hs hm hv2 hpa hb hb4 hc' hc6 (fun _ _ => br_f (by decide) ⟨i4, i4, nm_e ?_⟩) (fun z => absurd z (by rintro (z | z); omega; exact z valid)))
        exact br_t rfl (xc pa1 _ hpa hp)
      · intro post hp
        refine yw post (fun z => by omega) (fun _ => yc _ (br_f (by decide) ?_))
        refine br_f (by decide) ⟨i4, i4, ?_⟩
        rw [cs]
        exact nm_e hp
end MSG2
end
section
/-! frames that are done -/
section CTRL
variable {B : Nat} {A : Nat → List bk_E} {g : Nat → Nat} {st lf cd bg gv ob ol pb pn xp fh fl fa mk cb mi mb ml pa kb kl kc th pl md cr hc hg hi ib il it qi qc gc lc lr co ta yp ki le go la ps pd pt kw kh kf kz ky wh od tg tr so bd wo be : Nat → Int32} {px fr en ma wr : Int32}
theorem xk_an26 {post : SX → Prop} {s a n : Nat} (hs : s < 4) (ha : a + n ≤ 240) (hn : n ≤ 16) (hp : post (px, st, lf, cd, bg, gv, bk_wf ob s a (fun j => cb (16 * s + j)) n, upd ol s (nI (a + n)), pb, pn, xp, fh, fl, fa, mk, cb, mi, mb, ml, pa, kb, kl, kc, th, pl, md, cr, hc, hg, hi, ib, il, it, qi, qc, gc, lc, lr, co)) :
    ∀ f k : Nat, k ≤ n → n - k < f → wX_answerControl_26 post (nI s) (nI n) f (nI k) px st lf cd bg gv (bk_wf ob s a (fun j => cb (16 * s + j)) k) (upd ol s (nI (a + k))) pb pn xp fh fl fa mk cb mi mb ml pa kb kl kc th pl md cr hc hg hi ib il it qi qc gc lc lr co
  | 0, k, h1, h2 => by omega
  | f + 1, k, h1, h2 => by
    have e1 : nI s * 16 + nI k = nI (16 * s + k) := by rw [bn_mul, nI_add, Nat.mul_comm]
    have c1 : (nI (16 * s + k)).toNatClampNeg = 16 * s + k := nI_clamp (by omega)
    refine pk_le n k (fun g => ?_) (fun g => ?_)
    · have : k = n := by omega
      subst this
      exact hp
    · rw [e1, c1]
      refine ⟨vp_in_nI (by omega) (by omega), xk_put hs pk_us (by omega) (nm_r (nI_1 k) ?_)⟩
      rw [bk_uu]
      exact xk_an26 hs ha hn hp f (k + 1) (by omega) (by omega)
theorem xk_answer {post : SX → Prop} {s a n : Nat} {k : Int32} (hs : s < 4) (ha : ol s = nI a) (ha2 : a ≤ 240) (hn : n ≤ 16) (hfl : fl s = nI n)
    (h1 : a + 2 + n ≤ 240 → post (px, st, lf, cd, bg, gv, bk_wf (upd (upd ob (240 * s + a) (128 + k)) (240 * s + (a + 1)) (nI n)) s (a + 2) (fun j => cb (16 * s + j)) n, upd ol s (nI (a + 2 + n)), pb, pn, xp, fh, fl, fa, mk, cb, mi, mb, ml, pa, kb, kl, kc, th, pl, md, cr, hc, hg, hi, ib, il, it, qi, qc, gc, lc, lr, co)) (h0 : 240 < a + 2 + n → post (px, st, lf, cd, bg, gv, ob, ol, pb, pn, xp, fh, fl, fa, mk, cb, mi, mb, ml, pa, kb, kl, kc, th, pl, md, cr, hc, hg, hi, ib, il, it, qi, qc, gc, lc, lr, co)) : wpX_answerControl post (px, st, lf, cd, bg, gv, ob, ol, pb, pn, xp, fh, fl, fa, mk, cb, mi, mb, ml, pa, kb, kl, kc, th, pl, md, cr, hc, hg, hi, ib, il, it, qi, qc, gc, lc, lr, co) (nI s) k := by
  have cs : (nI s).toNatClampNeg = s := nI_clamp (by omega)
  refine ⟨pk_in s 4 hs, ?_⟩
  rw [cs, hfl]
  refine nm_e (xk_hasRoom hs ha ha2 (by omega) (fun g => br_f (by decide) ?_) (fun g => br_t rfl (h0 g)))
  refine xk_startFrame hs ha (by omega) ⟨n + 1, ?_⟩
  have w := xk_an26 (post := post) (s := s) (a := a + 2) (n := n) (ob := upd (upd ob (240 * s + a) (128 + k)) (240 * s + (a + 1)) (nI n)) (ol := upd ol s (nI (a + 2))) hs (by omega) hn (by rw [bk_uu]; exact h1 g) (n + 1) 0 (by omega) (by omega)
  rw [bk_uu] at w
  exact w
theorem yk_d22 {post : SY → Prop} {s n : Nat} {x2 : Int32} (hs : s < 4) (hn : n ≤ 16) (hle : le s = nI n)
    (hend : ∀ f, wY_done_22 post (nI s) x2 fr en ma wr (f + 1) (nI n) st lf cd ta bg kc ob ol pb pn yp ki le go mk cb mb ml la ps pd pt kw kh kf kz ky th pl md cr gc lc lr wh od tg tr so bd (bk_mv wo 0 (fun j => cb (16 * s + j)) n) be) :
    ∀ f k : Nat, k ≤ n → n - k < f → wY_done_22 post (nI s) x2 fr en ma wr f (nI k) st lf cd ta bg kc ob ol pb pn yp ki le go mk cb mb ml la ps pd pt kw kh kf kz ky th pl md cr gc lc lr wh od tg tr so bd (bk_mv wo 0 (fun j => cb (16 * s + j)) k) be
  | 0, k, h1, h2 => by omega
  | f + 1, k, h1, h2 => by
    by_cases e : k = n
    · subst e; exact hend f
    · have cs : (nI s).toNatClampNeg = s := nI_clamp (by omega)
      have ck : (nI k).toNatClampNeg = k := nI_clamp (by omega)
      have e1 : 16 * nI s + nI k = nI (16 * s + k) := by rw [bn_mul2, nI_add]
      have c1 : (nI (16 * s + k)).toNatClampNeg = 16 * s + k := nI_clamp (by omega)
      have ih := yk_d22 hs hn hle hend f (k + 1) (by omega) (by omega)
      rw [bk_mv, Nat.zero_add] at ih
      refine ⟨pk_in s 4 hs, ?_⟩
      rw [cs, hle, e1, c1, ck]
      exact br_f (nI_ge (by omega) (by omega)) ⟨vp_in_nI (by omega) (by omega), vp_in_nI (by omega) (by omega), nm_e (nm_r (nI_1 k) ih)⟩
theorem lk_done (h : bk_S0 B A g st ol th pl md cr lr gv ib il it qi qc ta wh od tg tr so bd fr en hc hg hi kc kb kl kw kh kf kz ky mk cb mb pb pn bg be) {s n z b : Nat} (hs : s < 4) (hF : ∀ z, z < 4 → z ≠ s → bk_F ml xp fh fl fa mi yp ki le go la ps pd pt z) (hst : st s = 1) (hz : z ≤ 200) (hml : ml s = nI z) (hb : b < 256) (hfh : fh s = nI b) (hki : ki s = nI (b % 16)) (hla : la s = (if b < 128 then 0 else 1)) (hps : ps s = (if b / 64 % 2 = 0 then 0 else 1))
    (hk : (b % 16 = 1 ∧ pt s = 0 ∧ mi s = (if b / 64 % 2 = 0 then 1 else 2)) ∨ (b % 16 = 0 ∧ pt s = 1 ∧ bk_Mi mi pt pd s) ∨ (8 ≤ b % 16 ∧ b % 16 ≤ 10 ∧ 128 ≤ b ∧ bk_Mi mi pt pd s))
    (hn : 8 ≤ b % 16 → n ≤ 16) (hfl : fl s = nI n) (hle : le s = nI n) (hB : B + 132 ≤ 100000000) :
    ∃ (A' : Nat → List bk_E) (g' : Nat → Nat) (px' : Int32) (st' : Nat → Int32) (lf' : Nat → Int32) (cd' : Nat → Int32) (bg' : Nat → Int32) (gv' : Nat → Int32) (ob' : Nat → Int32) (ol' : Nat → Int32) (pb' : Nat → Int32) (pn' : Nat → Int32) (xp' : Nat → Int32) (fh' : Nat → Int32) (fl' : Nat → Int32) (fa' : Nat → Int32) (mk' : Nat → Int32) (cb' : Nat → Int32) (mi' : Nat → Int32) (mb' : Nat → Int32) (ml' : Nat → Int32) (pa' : Nat → Int32) (kb' : Nat → Int32) (kl' : Nat → Int32) (kc' : Nat → Int32) (th' : Nat → Int32) (pl' : Nat → Int32) (md' : Nat → Int32) (cr' : Nat → Int32) (hc' : Nat → Int32) (hg' : Nat → Int32) (hi' : Nat → Int32) (ib' : Nat → Int32) (il' : Nat → Int32) (it' : Nat → Int32) (qi' : Nat → Int32) (qc' : Nat → Int32) (gc' : Nat → Int32) (lc' : Nat → Int32) (lr' : Nat → Int32) (co' : Nat → Int32) (fr' : Int32) (en' : Int32) (ma' : Int32) (wr' : Int32) (ta' : Nat → Int32) (yp' : Nat → Int32) (ki' : Nat → Int32) (le' : Nat → Int32) (go' : Nat → Int32) (la' : Nat → Int32) (ps' : Nat → Int32) (pd' : Nat → Int32) (pt' : Nat → Int32) (kw' : Nat → Int32) (kh' : Nat → Int32) (kf' : Nat → Int32) (kz' : Nat → Int32) (ky' : Nat → Int32) (wh' : Nat → Int32) (od' : Nat → Int32) (tg' : Nat → Int32) (tr' : Nat → Int32) (so' : Nat → Int32) (bd' : Nat → Int32) (wo' : Nat → Int32) (be' : Nat → Int32), bk_S (B + 132) A' g' st' ol' th' pl' md' cr' lr' gv' ib' il' it' qi' qc' ta' wh' od' tg' tr' so' bd' fr' en' hc' hg' hi' kc' kb' kl' kw' kh' kf' kz' ky' mk' cb' mb' pb' pn' bg' be' ml' xp' fh' fl' fa' mi' yp' ki' le' go' la' ps' pd' pt' ∧
      (∀ (post : Int32 → SX → Prop) (J39 : Int32 → Int32 → Int32 → (Nat → Int32) → (Nat → Int32) → (Nat → Int32) → (Nat → Int32) → (Nat → Int32) → (Nat → Int32) → (Nat → Int32) → (Nat → Int32) → (Nat → Int32) → (Nat → Int32) → (Nat → Int32) → (Nat → Int32) → (Nat → Int32) → (Nat → Int32) → (Nat → Int32) → (Nat → Int32) → (Nat → Int32) → (Nat → Int32) → (Nat → Int32) → (Nat → Int32) → (Nat → Int32) → (Nat → Int32) → (Nat → Int32) → (Nat → Int32) → (Nat → Int32) → (Nat → Int32) → (Nat → Int32) → (Nat → Int32) → (Nat → Int32) → (Nat → Int32) → (Nat → Int32) → (Nat → Int32) → (Nat → Int32) → (Nat → Int32) → (Nat → Int32) → (Nat → Int32) → (Nat → Int32) → (Nat → Int32) → Prop) (x2 : Int64) (x4 x5 x6 : Int32), wX_feed_135 post J39 (nI s) x2 x4 x5 x6 px' st' lf' cd' bg' gv' ob' ol' pb' pn' xp' fh' fl' fa' mk' cb' mi' mb' ml' pa' kb' kl' kc' th' pl' md' cr' hc' hg' hi' ib' il' it' qi' qc' gc' lc' lr' co' → wpX_finishFrame (fun r u => match u with | (px, st, lf, cd, bg, gv, ob, ol, pb, pn, xp, fh, fl, fa, mk, cb, mi, mb, ml, pa, kb, kl, kc, th, pl, md, cr, hc, hg, hi, ib, il, it, qi, qc, gc, lc, lr, co) => wX_feed_93 post J39 (nI s) x2 x4 x5 x6 r px st lf cd bg gv ob ol pb pn xp fh fl fa mk cb mi mb ml pa kb kl kc th pl md cr hc hg hi ib il it qi qc gc lc lr co) (px, st, lf, cd, bg, gv, ob, ol, pb, pn, xp, fh, fl, fa, mk, cb, mi, mb, ml, pa, kb, kl, kc, th, pl, md, cr, hc, hg, hi, ib, il, it, qi, qc, gc, lc, lr, co) (nI s)) ∧
      (∀ (post : SY → Prop), post (fr', en', ma', wr', st', lf', cd', ta', bg', kc', ob', ol', pb', pn', yp', ki', le', go', mk', cb', mb', ml', la', ps', pd', pt', kw', kh', kf', kz', ky', th', pl', md', cr', gc', lc', lr', wh', od', tg', tr', so', bd', wo', be') → wpY_done post (fr, en, ma, wr, st, lf, cd, ta, bg, kc, ob, ol, pb, pn, yp, ki, le, go, mk, cb, mb, ml, la, ps, pd, pt, kw, kh, kf, kz, ky, th, pl, md, cr, gc, lc, lr, wh, od, tg, tr, so, bd, wo, be) (nI s)) := by
  have cs : (nI s).toNatClampNeg = s := nI_clamp (by omega)
  have i4 : vp_in (nI s) 4 := pk_in s 4 hs
  have e15 := bn_15 b (by omega)
  have e128 := bn_128 b hb
  by_cases ctl : 8 ≤ b % 16
  · have hn16 := hn ctl
    have mi0 : b % 16 ≤ 10 ∧ bk_Mi mi pt pd s := by
      rcases hk with k | k | k
      · omega
      · omega
      · exact ⟨k.2.1, k.2.2.2⟩
    obtain ⟨hb10, hMi⟩ := mi0
    obtain ⟨h1, h2, h3, h4, h5, h6, h7, h8⟩ := id h
    obtain ⟨_, _, _, ⟨a, ha, ea⟩, _⟩ := h1.2.2.2.1 s hs
    have hF0 : ∀ q, q < 4 → bk_F ml (upd xp s 0) fh fl fa mi (upd yp s 0) ki le go la ps pd pt q := by
      intro q hq
      by_cases e : q = s
      · subst e; exact ⟨z, hz, hml, Or.inl ⟨pk_us, pk_us, hMi⟩⟩
      · exact bk_F_of (hF q hq e) rfl (pk_un e) rfl rfl rfl rfl (pk_un e) rfl rfl rfl rfl rfl rfl rfl
    -- Y's way behind the copying
    have yw : ∀ (post : SY → Prop), (((nI (b % 16) = 9 → (vp_in (nI s) 4 ∧ (wpY_write (fun u => match u with | (fr, en, ma, wr, st, lf, cd, ta, bg, kc, ob, ol, pb, pn, yp, ki, le, go, mk, cb, mb, ml, la, ps, pd, pt, kw, kh, kf, kz, ky, th, pl, md, cr, gc, lc, lr, wh, od, tg, tr, so, bd, wo, be) => (wY_done_74 post (nI s) (nI (b % 16)) fr en ma wr st lf cd ta bg kc ob ol pb pn yp ki le go mk cb mb ml la ps pd pt kw kh kf kz ky th pl md cr gc lc lr wh od tg tr so bd wo be)) (fr, en, ma, wr, st, lf, cd, ta, bg, kc, ob, ol, pb, pn, upd yp s 0, ki, le, go, mk, cb, mb, ml, la, ps, pd, pt, kw, kh, kf, kz, ky, th, pl, md, cr, gc, lc, lr, wh, od, tg, tr, so, bd, bk_mv wo 0 (fun j => cb (16 * s + j)) n, be) (nI s) 10 (nI n)))) ∧ (¬ nI (b % 16) = 9 → (wY_done_74 post (nI s) (nI (b % 16)) fr en ma wr st lf cd ta bg kc ob ol pb pn (upd yp s 0) ki le go mk cb mb ml la ps pd pt kw kh kf kz ky th pl md cr gc lc lr wh od tg tr so bd (bk_mv wo 0 (fun j => cb (16 * s + j)) n) be)))) → wpY_done post (fr, en, ma, wr, st, lf, cd, ta, bg, kc, ob, ol, pb, pn, yp, ki, le, go, mk, cb, mb, ml, la, ps, pd, pt, kw, kh, kf, kz, ky, th, pl, md, cr, gc, lc, lr, wh, od, tg, tr, so, bd, wo, be) (nI s) := by
      intro post hp
      refine ⟨i4, ?_⟩
      rw [cs, hki]
      refine nm_e ⟨i4, nm_e (br_f (nI_ge (a := 7) (by omega) (by omega)) ⟨n + 1, ?_⟩)⟩
      refine yk_d22 (yp := upd yp s 0) hs hn16 hle (fun f => ⟨i4, ?_⟩) (n + 1) 0 (by omega) (by omega)
      rw [cs, hle]
      exact br_t (nI_le (Nat.le_refl _) (by omega)) hp
    have xw : ∀ (post : Int32 → SX → Prop), (b % 16 = 8 → wpX_answerControl (fun u => match u with | (px, st, lf, cd, bg, gv, ob, ol, pb, pn, xp, fh, fl, fa, mk, cb, mi, mb, ml, pa, kb, kl, kc, th, pl, md, cr, hc, hg, hi, ib, il, it, qi, qc, gc, lc, lr, co) => post 18 (px, st, lf, cd, bg, gv, ob, ol, pb, pn, xp, fh, fl, fa, mk, cb, mi, mb, ml, pa, kb, kl, kc, th, pl, md, cr, hc, hg, hi, ib, il, it, qi, qc, gc, lc, lr, co)) (px, st, lf, cd, bg, gv, ob, ol, pb, pn, upd xp s 0, fh, fl, fa, mk, cb, mi, mb, ml, pa, kb, kl, kc, th, pl, md, cr, hc, hg, hi, ib, il, it, qi, qc, gc, lc, lr, co) (nI s) 8) → (b % 16 = 9 → wpX_answerControl (fun u => match u with | (px, st, lf, cd, bg, gv, ob, ol, pb, pn, xp, fh, fl, fa, mk, cb, mi, mb, ml, pa, kb, kl, kc, th, pl, md, cr, hc, hg, hi, ib, il, it, qi, qc, gc, lc, lr, co) => post 0 (px, st, lf, cd, bg, gv, ob, ol, pb, pn, xp, fh, fl, fa, mk, cb, mi, mb, ml, pa, kb, kl, kc, th, pl, md, cr, hc, hg, hi, ib, il, it, qi, qc, gc, lc, lr, co)) (px, st, lf, cd, bg, gv, ob, ol, pb, pn, upd xp s 0, fh, fl, fa, mk, cb, mi, mb, ml, pa, kb, kl, kc, th, pl, md, cr, hc, hg, hi, ib, il, it, qi, qc, gc, lc, lr, co) (nI s) 10) → (b % 16 = 10 → post 0 (px, st, lf, cd, bg, gv, ob, ol, pb, pn, upd xp s 0, fh, fl, fa, mk, cb, mi, mb, ml, pa, kb, kl, kc, th, pl, md, cr, hc, hg, hi, ib, il, it, qi, qc, gc, lc, lr, co)) → wpX_finishFrame post (px, st, lf, cd, bg, gv, ob, ol, pb, pn, xp, fh, fl, fa, mk, cb, mi, mb, ml, pa, kb, kl, kc, th, pl, md, cr, hc, hg, hi, ib, il, it, qi, qc, gc, lc, lr, co) (nI s) := by
      intro post g8 g9 g10
      refine ⟨i4, ?_⟩
      rw [cs, hfh]
      refine nm_e ⟨i4, nm_e (nm_r e15 (br_f (nI_nlt (b := 8) (by omega) (by omega)) (br_f (nI_nlt (a := 10) (by omega) (by omega)) ?_)))⟩
      exact pk_eq (b % 16) 8 g8 (fun e => pk_eq (b % 16) 9 g9 (fun e2 => pk_eq (b % 16) 10 g10 (fun e3 => by omega)))
    have wfc : ∀ (o' : Nat → Int32), bk_wf o' s (a + 2) (bk_mv wo 0 (fun j => cb (16 * s + j)) n) n = bk_wf o' s (a + 2) (fun j => cb (16 * s + j)) n := fun o' => bk_wf_congr o' s (a + 2) _ _ n (fun j hj => by
      have := bk_mv_i wo 0 (fun j => cb (16 * s + j)) n j hj
      rw [Nat.zero_add] at this
      exact this)
    by_cases c8 : b % 16 = 8
    · -- it closes
      by_cases room : a + 2 + n ≤ 240
      · have hS0 : bk_S0 B A g st (upd ol s (nI (a + 2 + n))) th pl md cr lr gv ib il it qi qc ta wh od tg tr so bd fr en hc hg hi kc kb kl kw kh kf kz ky mk cb mb pb pn bg be := ⟨dk_ol h1 (by omega), h2, h3, h4, h5, h6, h7, h8⟩
        obtain ⟨d, hS, _, xf, yf⟩ := lk_S_ends (ob := bk_wf (upd (upd ob (240 * s + a) (128 + 8)) (240 * s + (a + 1)) (nI n)) s (a + 2) (fun j => cb (16 * s + j)) n) (gc := gc) (lc := lc) (xp := upd xp s 0) (yp := upd yp s 0) hS0 hs (fun q hq e => hF0 q hq) (by omega)
        rw [bk_uu, bk_uu] at hS
        refine ⟨zz_A d, zz_g d, px, upd st s (nI 2), lf, cd, upd bg s 0, zz_gv d, zz_ob d, zz_ol d, pb, pn, upd xp s 0, fh, fl, fa, mk, cb, upd mi s 0, mb, upd ml s 0, pa, kb, kl, upd kc s 0, zz_th d, pl, md, cr, zz_hc d, zz_hg d, zz_hi d, zz_ib d, zz_il d, zz_it d, zz_qi d, zz_qc d, zz_gc d, zz_lc d, zz_lr d, co, zz_fr d, zz_en d, ma, wr, zz_ta d, upd yp s 0, ki, le, go, la, ps, pd, upd pt s 0, kw, kh, kf, kz, ky, zz_wh d, zz_od d, zz_tg d, zz_tr d, zz_so d, zz_bd d, bk_mv wo 0 (fun j => cb (16 * s + j)) n, be, bk_S_mono hS (by omega), ?_, ?_⟩
        · intro post J39 x2 x4 x5 x6 hp
          refine xw _ (fun _ => xk_answer hs ea ha hn16 hfl (fun _ => br_f (by decide) (br_t rfl (xf _ ?_))) (fun q => by omega)) (fun q => by omega) (fun q => by omega)
          rw [bk_uu]
          exact hp
        · intro post hp
          refine yw post (br_f (fun q => by have := (nI_eq (a := b % 16) (b := 9) (by omega) (by omega)).mp q; omega) (br_t (by rw [c8]; rfl) ⟨i4, ?_⟩))
          rw [cs, hle]
          refine yk_write hs ea ha (by omega) (fun _ => ?_) (fun q => by omega)
          rw [wfc]
          refine yf _ ?_
          rw [bk_uu]
          exact hp
      · obtain ⟨d, hS, _, xf, yf⟩ := lk_S_ends (ob := ob) (gc := gc) (lc := lc) (xp := upd xp s 0) (yp := upd yp s 0) h hs (fun q hq e => hF0 q hq) (by omega)
        rw [bk_uu, bk_uu] at hS
        refine ⟨zz_A d, zz_g d, px, upd st s (nI 2), lf, cd, upd bg s 0, zz_gv d, zz_ob d, zz_ol d, pb, pn, upd xp s 0, fh, fl, fa, mk, cb, upd mi s 0, mb, upd ml s 0, pa, kb, kl, upd kc s 0, zz_th d, pl, md, cr, zz_hc d, zz_hg d, zz_hi d, zz_ib d, zz_il d, zz_it d, zz_qi d, zz_qc d, zz_gc d, zz_lc d, zz_lr d, co, zz_fr d, zz_en d, ma, wr, zz_ta d, upd yp s 0, ki, le, go, la, ps, pd, upd pt s 0, kw, kh, kf, kz, ky, zz_wh d, zz_od d, zz_tg d, zz_tr d, zz_so d, zz_bd d, bk_mv wo 0 (fun j => cb (16 * s + j)) n, be, bk_S_mono hS (by omega), ?_, ?_⟩
        · intro post J39 x2 x4 x5 x6 hp
          refine xw _ (fun _ => xk_answer hs ea ha hn16 hfl (fun q => by omega) (fun _ => br_f (by decide) (br_t rfl (xf _ ?_)))) (fun q => by omega) (fun q => by omega)
          rw [bk_uu]
          exact hp
        · intro post hp
          refine yw post (br_f (fun q => by have := (nI_eq (a := b % 16) (b := 9) (by omega) (by omega)).mp q; omega) (br_t (by rw [c8]; rfl) ⟨i4, ?_⟩))
          rw [cs, hle]
          refine yk_write hs ea ha (by omega) (fun q => by omega) (fun _ => ?_)
          refine yf _ ?_
          rw [bk_uu]
          exact hp
    · have n8 : ¬ nI (b % 16) = 8 := fun q => c8 ((nI_eq (a := b % 16) (b := 8) (by omega) (by omega)).mp q)
      by_cases c9 : b % 16 = 9
      · by_cases room : a + 2 + n ≤ 240
        · refine ⟨A, g, px, st, lf, cd, bg, gv, bk_wf (upd (upd ob (240 * s + a) (128 + 10)) (240 * s + (a + 1)) (nI n)) s (a + 2) (fun j => cb (16 * s + j)) n, upd ol s (nI (a + 2 + n)), pb, pn, upd xp s 0, fh, fl, fa, mk, cb, mi, mb, ml, pa, kb, kl, kc, th, pl, md, cr, hc, hg, hi, ib, il, it, qi, qc, gc, lc, lr, co, fr, en, ma, wr, ta, upd yp s 0, ki, le, go, la, ps, pd, pt, kw, kh, kf, kz, ky, wh, od, tg, tr, so, bd, bk_mv wo 0 (fun j => cb (16 * s + j)) n, be, ⟨⟨dk_mono (dk_ol h1 (by omega)) (by omega), h2, h3, h4, h5, h6, h7, h8⟩, hF0⟩, ?_, ?_⟩
          · intro post J39 x2 x4 x5 x6 hp
            exact xw _ (fun q => by omega) (fun _ => xk_answer hs ea ha hn16 hfl (fun _ => br_f (by decide) (br_f (by decide) (br_t rfl hp))) (fun q => by omega)) (fun q => by omega)
          · intro post hp
            refine yw post (br_t (by rw [c9]; rfl) ⟨i4, yk_write hs ea ha (by omega) (fun _ => ?_) (fun q => by omega)⟩)
            rw [wfc]
            exact br_f n8 hp
        · refine ⟨A, g, px, st, lf, cd, bg, gv, ob, ol, pb, pn, upd xp s 0, fh, fl, fa, mk, cb, mi, mb, ml, pa, kb, kl, kc, th, pl, md, cr, hc, hg, hi, ib, il, it, qi, qc, gc, lc, lr, co, fr, en, ma, wr, ta, upd yp s 0, ki, le, go, la, ps, pd, pt, kw, kh, kf, kz, ky, wh, od, tg, tr, so, bd, bk_mv wo 0 (fun j => cb (16 * s + j)) n, be, ⟨⟨dk_mono h1 (by omega), h2, h3, h4, h5, h6, h7, h8⟩, hF0⟩, ?_, ?_⟩
          · intro post J39 x2 x4 x5 x6 hp
            exact xw _ (fun q => by omega) (fun _ => xk_answer hs ea ha hn16 hfl (fun q => by omega) (fun _ => br_f (by decide) (br_f (by decide) (br_t rfl hp)))) (fun q => by omega)
          · intro post hp
            exact yw post (br_t (by rw [c9]; rfl) ⟨i4, yk_write hs ea ha (by omega) (fun q => by omega) (fun _ => br_f n8 hp)⟩)
      · refine ⟨A, g, px, st, lf, cd, bg, gv, ob, ol, pb, pn, upd xp s 0, fh, fl, fa, mk, cb, mi, mb, ml, pa, kb, kl, kc, th, pl, md, cr, hc, hg, hi, ib, il, it, qi, qc, gc, lc, lr, co, fr, en, ma, wr, ta, upd yp s 0, ki, le, go, la, ps, pd, pt, kw, kh, kf, kz, ky, wh, od, tg, tr, so, bd, bk_mv wo 0 (fun j => cb (16 * s + j)) n, be, ⟨⟨dk_mono h1 (by omega), h2, h3, h4, h5, h6, h7, h8⟩, hF0⟩, ?_, ?_⟩
        · intro post J39 x2 x4 x5 x6 hp
          exact xw _ (fun q => by omega) (fun q => by omega) (fun _ => br_f (by decide) (br_f (by decide) (br_t rfl hp)))
        · intro post hp
          exact yw post (br_f (fun q => c9 ((nI_eq (a := b % 16) (b := 9) (by omega) (by omega)).mp q)) (br_f n8 hp))
  · -- a part of a message
    have o01 : b % 16 = 1 ∨ b % 16 = 0 := by
      rcases hk with k | k | k <;> omega
    -- what packed is then
    have hpd : ∃ pd' : Nat → Int32, (∀ q, q ≠ s → pd' q = pd q) ∧ ((mi s = 1 ∧ pd' s = 0) ∨ (mi s = 2 ∧ pd' s = 1)) ∧
        (∀ (post : SY → Prop), wY_done_117 post (nI s) fr en ma wr st lf cd ta bg kc ob ol pb pn (upd yp s 0) ki le go mk cb mb ml la ps pd' pt kw kh kf kz ky th pl md cr gc lc lr wh od tg tr so bd wo be → wpY_done post (fr, en, ma, wr, st, lf, cd, ta, bg, kc, ob, ol, pb, pn, yp, ki, le, go, mk, cb, mb, ml, la, ps, pd, pt, kw, kh, kf, kz, ky, th, pl, md, cr, gc, lc, lr, wh, od, tg, tr, so, bd, wo, be) (nI s)) := by
      have npv : vp_nar .boolean (ps s) = ps s := by rw [hps]; split; exact bn_b0; exact bn_b1
      rcases hk with k | k | k
      · refine ⟨upd pd s (ps s), fun q ne => pk_un ne, ?_, ?_⟩
        · rw [pk_us, k.2.2, hps]
          by_cases p0 : b / 64 % 2 = 0
          · rw [if_pos p0, if_pos p0]; exact Or.inl ⟨rfl, rfl⟩
          · rw [if_neg p0, if_neg p0]; exact Or.inr ⟨rfl, rfl⟩
        · intro post hp
          refine ⟨i4, ?_⟩
          rw [cs, hki, npv]
          exact nm_e ⟨i4, nm_e (br_t (nI_le (b := 7) (by omega) (by omega)) (br_t (by rw [k.1]; rfl) ⟨i4, i4, nm_e hp⟩))⟩
      · refine ⟨pd, fun _ _ => rfl, ?_, ?_⟩
        · rcases k.2.2 with q | q | q
          · have := q.2
            rw [k.2.1] at this
            exact absurd this (by decide)
          · exact Or.inl ⟨q.1, q.2.2⟩
          · exact Or.inr ⟨q.1, q.2.2⟩
        · intro post hp
          refine ⟨i4, ?_⟩
          rw [cs, hki]
          exact nm_e ⟨i4, nm_e (br_t (nI_le (b := 7) (by omega) (by omega)) (br_f (fun q => by have := (nI_eq (a := b % 16) (b := 1) (by omega) (by omega)).mp q; omega) hp))⟩
      · omega
    obtain ⟨pd1, pdn, pdm, yw⟩ := hpd
    have xw : ∀ (post : Int32 → SX → Prop), (b < 128 → post 0 (px, st, lf, cd, bg, gv, ob, ol, pb, pn, upd xp s 0, fh, fl, fa, mk, cb, mi, mb, ml, pa, kb, kl, kc, th, pl, md, cr, hc, hg, hi, ib, il, it, qi, qc, gc, lc, lr, co)) → (128 ≤ b → wpX_finishMessage (fun r u => match u with | (px, st, lf, cd, bg, gv, ob, ol, pb, pn, xp, fh, fl, fa, mk, cb, mi, mb, ml, pa, kb, kl, kc, th, pl, md, cr, hc, hg, hi, ib, il, it, qi, qc, gc, lc, lr, co) => post r (px, st, lf, cd, bg, gv, ob, ol, pb, pn, xp, fh, fl, fa, mk, cb, mi, mb, ml, pa, kb, kl, kc, th, pl, md, cr, hc, hg, hi, ib, il, it, qi, qc, gc, lc, lr, co)) (px, st, lf, cd, bg, gv, ob, ol, pb, pn, upd xp s 0, fh, fl, fa, mk, cb, mi, mb, ml, pa, kb, kl, kc, th, pl, md, cr, hc, hg, hi, ib, il, it, qi, qc, gc, lc, lr, co) (nI s)) → wpX_finishFrame post (px, st, lf, cd, bg, gv, ob, ol, pb, pn, xp, fh, fl, fa, mk, cb, mi, mb, ml, pa, kb, kl, kc, th, pl, md, cr, hc, hg, hi, ib, il, it, qi, qc, gc, lc, lr, co) (nI s) := by
      intro post g0 g1
      refine ⟨i4, ?_⟩
      rw [cs, hfh]
      refine nm_e ⟨i4, nm_e (nm_r e15 (br_t (nI_lt (b := 8) (by omega) (by omega)) (br_c (fun q => g0 (e128.mp q)) (fun q => g1 ?_))))⟩
      apply Classical.byContradiction
      intro nq
      exact q (e128.mpr (by omega))
    by_cases last : b < 128
    · rw [if_pos last] at hla
      obtain ⟨h1, h2, h3, h4, h5, h6, h7, h8⟩ := h
      refine ⟨A, g, px, st, lf, cd, bg, gv, ob, ol, pb, pn, upd xp s 0, fh, fl, fa, mk, cb, mi, mb, ml, pa, kb, kl, kc, th, pl, md, cr, hc, hg, hi, ib, il, it, qi, qc, gc, lc, lr, co, fr, en, ma, wr, ta, upd yp s 0, ki, le, go, la, ps, pd1, upd pt s 1, kw, kh, kf, kz, ky, wh, od, tg, tr, so, bd, wo, be, ⟨⟨dk_mono h1 (by omega), h2, h3, h4, h5, h6, h7, h8⟩, ?_⟩, ?_, ?_⟩
      · intro q hq
        by_cases e : q = s
        · subst e
          refine ⟨z, hz, hml, Or.inl ⟨pk_us, pk_us, ?_⟩⟩
          rcases pdm with w | w
          · exact Or.inr (Or.inl ⟨w.1, pk_us, w.2⟩)
          · exact Or.inr (Or.inr ⟨w.1, pk_us, w.2⟩)
        · exact bk_F_of (hF q hq e) rfl (pk_un e) rfl rfl rfl rfl (pk_un e) rfl rfl rfl rfl rfl (pdn q e) (pk_un e)
      · intro post J39 x2 x4 x5 x6 hp
        exact xw _ (fun _ => br_f (by decide) (br_f (by decide) (br_t rfl hp))) (fun q => by omega)
      · intro post hp
        refine yw post ⟨i4, ?_⟩
        rw [cs, hla]
        refine br_t rfl ⟨i4, ?_⟩
        rw [cs, bn_b1]
        refine nm_e ⟨i4, ?_⟩
        rw [hla]
        exact br_t rfl hp
    · rw [if_neg last] at hla
      obtain ⟨A', g', px', st', lf', cd', bg', gv', ob', ol', pb', pn', xp', fh', fl', fa', mk', cb', mi', mb', ml', pa', kb', kl', kc', th', pl', md', cr', hc', hg', hi', ib', il', it', qi', qc', gc', lc', lr', co', fr', en', ma', wr', ta', yp', ki', le', go', la', ps', pd', pt', kw', kh', kf', kz', ky', wh', od', tg', tr', so', bd', wo', be', hS, x1, y1⟩ := lk_msg (px := px) (st := st) (lf := lf) (cd := cd) (bg := bg) (gv := gv) (ob := ob) (ol := ol) (pb := pb) (pn := pn) (fh := fh) (fl := fl) (fa := fa) (mk := mk) (cb := cb) (mi := mi) (mb := mb) (ml := ml) (pa := pa) (kb := kb) (kl := kl) (kc := kc) (th := th) (pl := pl) (md := md) (cr := cr) (hc := hc) (hg := hg) (hi := hi) (ib := ib) (il := il) (it := it) (qi := qi) (qc := qc) (gc := gc) (lc := lc) (lr := lr) (co := co) (fr := fr) (en := en) (ma := ma) (wr := wr) (ta := ta) (ki := ki) (le := le) (go := go) (la := la) (ps := ps) (kw := kw) (kh := kh) (kf := kf) (kz := kz) (ky := ky) (wh := wh) (od := od) (tg := tg) (tr := tr) (so := so) (bd := bd) (wo := wo) (be := be) (xp := upd xp s 0) (yp := upd yp s 0) (pd := pd1) (pt := upd pt s 0) h hs (fun q hq e => bk_F_of (hF q hq e) rfl (pk_un e) rfl rfl rfl rfl (pk_un e) rfl rfl rfl rfl rfl (pdn q e) (pk_un e)) hz hml pk_us pk_us pk_us hst (by
        rcases pdm with w | w
        · exact Or.inr ⟨by rw [w.1]; decide, w.2⟩
        · exact Or.inl w) hB
      refine ⟨A', g', px', st', lf', cd', bg', gv', ob', ol', pb', pn', xp', fh', fl', fa', mk', cb', mi', mb', ml', pa', kb', kl', kc', th', pl', md', cr', hc', hg', hi', ib', il', it', qi', qc', gc', lc', lr', co', fr', en', ma', wr', ta', yp', ki', le', go', la', ps', pd', pt', kw', kh', kf', kz', ky', wh', od', tg', tr', so', bd', wo', be', hS, ?_, ?_⟩
      · intro post J39 x2 x4 x5 x6 hp
        exact xw _ (fun q => by omega) (fun _ => x1 post J39 x2 x4 x5 x6 hp)
      · intro post hp
        refine yw post ⟨i4, ?_⟩
        rw [cs, hla]
        refine br_f (by decide) ⟨i4, ?_⟩
        rw [cs, bn_b0]
        refine nm_e ⟨i4, ?_⟩
        rw [hla]
        exact br_f (by decide) (y1 _ hp)
end CTRL
end
section
/-! the bytes behind the first -/
section LOOK
variable {B : Nat} {A : Nat → List bk_E} {g : Nat → Nat} {st lf cd bg gv ob ol pb pn xp fh fl fa mk cb mi mb ml pa kb kl kc th pl md cr hc hg hi ib il it qi qc gc lc lr co ta yp ki le go la ps pd pt kw kh kf kz ky wh od tg tr so bd wo be : Nat → Int32} {px fr en ma wr : Int32}
theorem xk_isControl {post : Int32 → Prop} {s b : Nat} (hs : s < 4) (hb : b < 256) (hfh : fh s = nI b) (h0 : b % 16 < 8 → post 0) (h1 : 8 ≤ b % 16 → post 1) : wpX_isControl post (px, st, lf, cd, bg, gv, ob, ol, pb, pn, xp, fh, fl, fa, mk, cb, mi, mb, ml, pa, kb, kl, kc, th, pl, md, cr, hc, hg, hi, ib, il, it, qi, qc, gc, lc, lr, co) (nI s) := by
  have cs : (nI s).toNatClampNeg = s := nI_clamp (by omega)
  refine ⟨pk_in s 4 hs, ?_⟩
  rw [cs, hfh, bn_15 b (by omega)]
  exact pk_lt (b % 16) 8 h0 h1
theorem xk_judge {post : Int32 → SX → Prop} {s b n z : Nat} (hs : s < 4) (hb : b < 256) (hfh : fh s = nI b) (hfl : fl s = nI n) (hn : n < 100000) (hml : ml s = nI z) (hz : z ≤ 200)
    (h9 : b % 16 < 8 → 200 < z + n → post 9 (px, st, lf, cd, bg, gv, ob, ol, pb, pn, xp, fh, fl, fa, mk, cb, mi, mb, ml, pa, kb, kl, kc, th, pl, md, cr, hc, hg, hi, ib, il, it, qi, qc, gc, lc, lr, co)) (h0 : (8 ≤ b % 16 ∨ z + n ≤ 200) → post 0 (px, st, lf, cd, bg, gv, ob, ol, pb, pn, upd xp s 3, fh, fl, upd fa s 0, mk, cb, mi, mb, ml, pa, kb, kl, kc, th, pl, md, cr, hc, hg, hi, ib, il, it, qi, qc, gc, lc, lr, co)) : wpX_judgeLength post (px, st, lf, cd, bg, gv, ob, ol, pb, pn, xp, fh, fl, fa, mk, cb, mi, mb, ml, pa, kb, kl, kc, th, pl, md, cr, hc, hg, hi, ib, il, it, qi, qc, gc, lc, lr, co) (nI s) := by
  have cs : (nI s).toNatClampNeg = s := nI_clamp (by omega)
  have i4 : vp_in (nI s) 4 := pk_in s 4 hs
  have fin : (8 ≤ b % 16 ∨ z + n ≤ 200) → wX_judgeLength_30 post (nI s) px st lf cd bg gv ob ol pb pn xp fh fl fa mk cb mi mb ml pa kb kl kc th pl md cr hc hg hi ib il it qi qc gc lc lr co := by
    intro k
    refine ⟨i4, ?_⟩
    rw [cs]
    exact nm_e ⟨i4, nm_e (h0 k)⟩
  unfold wpX_judgeLength
  refine xk_isControl hs hb hfh (fun k => br_t rfl ⟨i4, i4, ?_⟩) (fun k => br_f (by decide) (fin (Or.inl k)))
  rw [cs, hml, hfl, nI_add]
  exact pk_le (z + n) 200 (fun q => fin (Or.inr q)) (fun q => h9 k q)
theorem yk_begin {post : SY → Prop} {s o n z : Nat} (hs : s < 4) (ho : ki s = nI o) (ho2 : o < 2 ∨ (8 ≤ o ∧ o ≤ 10)) (hn : n < 100000) (hml : ml s = nI z) (hz : z ≤ 200)
    (h9 : o < 8 → 200 < z + n → wpY_faults (fun u => match u with | (fr, en, ma, wr, st, lf, cd, ta, bg, kc, ob, ol, pb, pn, yp, ki, le, go, mk, cb, mb, ml, la, ps, pd, pt, kw, kh, kf, kz, ky, th, pl, md, cr, gc, lc, lr, wh, od, tg, tr, so, bd, wo, be) => post (fr, en, ma, wr, st, lf, cd, ta, bg, kc, ob, ol, pb, pn, yp, ki, le, go, mk, cb, mb, ml, la, ps, pd, pt, kw, kh, kf, kz, ky, th, pl, md, cr, gc, lc, lr, wh, od, tg, tr, so, bd, wo, be)) (fr, en, ma, wr, st, lf, cd, ta, bg, kc, ob, ol, pb, pn, yp, ki, le, go, mk, cb, mb, ml, la, ps, pd, pt, kw, kh, kf, kz, ky, th, pl, md, cr, gc, lc, lr, wh, od, tg, tr, so, bd, wo, be) (nI s) 9) (h0 : (8 ≤ o ∨ z + n ≤ 200) → post (fr, en, ma, wr, st, lf, cd, ta, bg, kc, ob, ol, pb, pn, upd yp s 4, ki, upd le s (nI n), upd go s 0, mk, cb, mb, ml, la, ps, pd, pt, kw, kh, kf, kz, ky, th, pl, md, cr, gc, lc, lr, wh, od, tg, tr, so, bd, wo, be)) : wpY_begin post (fr, en, ma, wr, st, lf, cd, ta, bg, kc, ob, ol, pb, pn, yp, ki, le, go, mk, cb, mb, ml, la, ps, pd, pt, kw, kh, kf, kz, ky, th, pl, md, cr, gc, lc, lr, wh, od, tg, tr, so, bd, wo, be) (nI s) (nI n) := by
  have cs : (nI s).toNatClampNeg = s := nI_clamp (by omega)
  have i4 : vp_in (nI s) 4 := pk_in s 4 hs
  have fin : (8 ≤ o ∨ z + n ≤ 200) → wY_begin_32 post (nI s) (nI n) fr en ma wr st lf cd ta bg kc ob ol pb pn yp ki le go mk cb mb ml la ps pd pt kw kh kf kz ky th pl md cr gc lc lr wh od tg tr so bd wo be := by
    intro k
    refine ⟨i4, ?_⟩
    rw [cs]
    exact nm_e ⟨i4, nm_e ⟨i4, nm_e (h0 k)⟩⟩
  refine ⟨i4, ?_⟩
  rw [cs, ho]
  refine pk_le 2 o (fun k => fin (Or.inl (by omega))) (fun k => ⟨i4, ?_⟩)
  rw [hml, nI_add]
  exact pk_le (z + n) 200 (fun q => fin (Or.inr q)) (fun q => h9 (by omega) q)
theorem xk_readSecond {post : Int32 → SX → Prop} {s b b0 z : Nat} (hs : s < 4) (hb : b < 256) (hb0 : b0 < 256) (hfh : fh s = nI b0) (hml : ml s = nI z) (hz : z ≤ 200)
    (h2 : (b < 128 ∨ b % 128 = 127 ∨ (16 < b % 128 ∧ 8 ≤ b0 % 16)) → post 2 (px, st, lf, cd, bg, gv, ob, ol, pb, pn, xp, fh, fl, fa, mk, cb, mi, mb, ml, pa, kb, kl, kc, th, pl, md, cr, hc, hg, hi, ib, il, it, qi, qc, gc, lc, lr, co))
    (h126 : 128 ≤ b → b % 128 = 126 → b0 % 16 < 8 → post 0 (px, st, lf, cd, bg, gv, ob, ol, pb, pn, upd xp s 2, fh, upd fl s 0, upd fa s 0, mk, cb, mi, mb, ml, pa, kb, kl, kc, th, pl, md, cr, hc, hg, hi, ib, il, it, qi, qc, gc, lc, lr, co))
    (h9 : 128 ≤ b → b % 128 < 126 → b0 % 16 < 8 → 200 < z + b % 128 → post 9 (px, st, lf, cd, bg, gv, ob, ol, pb, pn, xp, fh, upd fl s (nI (b % 128)), upd fa s 0, mk, cb, mi, mb, ml, pa, kb, kl, kc, th, pl, md, cr, hc, hg, hi, ib, il, it, qi, qc, gc, lc, lr, co))
    (h0 : 128 ≤ b → b % 128 < 126 → (8 ≤ b0 % 16 → b % 128 ≤ 16) → (8 ≤ b0 % 16 ∨ z + b % 128 ≤ 200) → post 0 (px, st, lf, cd, bg, gv, ob, ol, pb, pn, upd xp s 3, fh, upd fl s (nI (b % 128)), upd fa s 0, mk, cb, mi, mb, ml, pa, kb, kl, kc, th, pl, md, cr, hc, hg, hi, ib, il, it, qi, qc, gc, lc, lr, co)) : wpX_readSecond post (px, st, lf, cd, bg, gv, ob, ol, pb, pn, xp, fh, fl, fa, mk, cb, mi, mb, ml, pa, kb, kl, kc, th, pl, md, cr, hc, hg, hi, ib, il, it, qi, qc, gc, lc, lr, co) (nI s) (nI b) := by
  have cs : (nI s).toNatClampNeg = s := nI_clamp (by omega)
  have i4 : vp_in (nI s) 4 := pk_in s 4 hs
  have e127 := bn_127 b (by omega)
  have f35 : 128 ≤ b → b % 128 ≠ 127 → (b % 128 ≤ 16 ∨ b0 % 16 < 8) → wX_readSecond_35 post (nI s) (nI (b % 128)) px st lf cd bg gv ob ol pb pn xp fh fl fa mk cb mi mb ml pa kb kl kc th pl md cr hc hg hi ib il it qi qc gc lc lr co := by
    intro k1 k2 k3
    refine ⟨i4, ?_⟩
    rw [cs]
    refine nm_e (pk_eq (b % 128) 126 (fun e => ⟨i4, nm_e ⟨i4, nm_e (h126 k1 e (by omega))⟩⟩) (fun e => ⟨i4, nm_e ?_⟩))
    refine xk_judge (b := b0) (n := b % 128) hs hb0 hfh pk_us (by omega) hml hz (fun q1 q2 => h9 k1 (by omega) q1 q2) (fun q => ?_)
    rw [bk_uu]
    exact h0 k1 (by omega) (by omega) q
  unfold wpX_readSecond
  dsimp only
  rw [e127]
  refine nm_e (br_c (fun q => h2 (Or.inl ((bn_128 b hb).mp q))) (fun q => ?_))
  have k1 : 128 ≤ b := by
    apply Classical.byContradiction
    intro n
    exact q ((bn_128 b hb).mpr (by omega))
  refine pk_eq (b % 128) 127 (fun e => h2 (Or.inr (Or.inl e))) (fun e => pk_le (b % 128) 16 (fun e2 => f35 k1 e (Or.inl e2)) (fun e2 => ?_))
  exact xk_isControl hs hb0 hfh (fun k => br_t rfl (f35 k1 e (Or.inr k))) (fun k => br_f (by decide) (h2 (Or.inr (Or.inr ⟨e2, k⟩))))
/-- Y, behind a byte that ends no frame -/
theorem yk_312 {post : SY → Prop} {s : Nat} (hs : s < 4) (h8 : yp s ≠ 8 ∨ go s ≠ le s) (hp : post (fr, en, ma, wr, st, lf, cd, ta, bg, kc, ob, ol, pb, pn, yp, ki, le, go, mk, cb, mb, ml, la, ps, pd, pt, kw, kh, kf, kz, ky, th, pl, md, cr, gc, lc, lr, wh, od, tg, tr, so, bd, wo, be)) : wY_look_312 post (nI s) fr en ma wr st lf cd ta bg kc ob ol pb pn yp ki le go mk cb mb ml la ps pd pt kw kh kf kz ky th pl md cr gc lc lr wh od tg tr so bd wo be := by
  have cs : (nI s).toNatClampNeg = s := nI_clamp (by omega)
  have i4 : vp_in (nI s) 4 := pk_in s 4 hs
  refine ⟨i4, ?_⟩
  rw [cs]
  refine br_c (fun q => ⟨i4, i4, br_f ?_ hp⟩) (fun q => hp)
  rcases h8 with w | w
  · exact absurd q w
  · exact w
theorem yk_312d {post : SY → Prop} {s : Nat} (hs : s < 4) (h8 : yp s = 8) (hg' : go s = le s) (hp : wpY_done (fun u => match u with | (fr, en, ma, wr, st, lf, cd, ta, bg, kc, ob, ol, pb, pn, yp, ki, le, go, mk, cb, mb, ml, la, ps, pd, pt, kw, kh, kf, kz, ky, th, pl, md, cr, gc, lc, lr, wh, od, tg, tr, so, bd, wo, be) => post (fr, en, ma, wr, st, lf, cd, ta, bg, kc, ob, ol, pb, pn, yp, ki, le, go, mk, cb, mb, ml, la, ps, pd, pt, kw, kh, kf, kz, ky, th, pl, md, cr, gc, lc, lr, wh, od, tg, tr, so, bd, wo, be)) (fr, en, ma, wr, st, lf, cd, ta, bg, kc, ob, ol, pb, pn, yp, ki, le, go, mk, cb, mb, ml, la, ps, pd, pt, kw, kh, kf, kz, ky, th, pl, md, cr, gc, lc, lr, wh, od, tg, tr, so, bd, wo, be) (nI s)) : wY_look_312 post (nI s) fr en ma wr st lf cd ta bg kc ob ol pb pn yp ki le go mk cb mb ml la ps pd pt kw kh kf kz ky th pl md cr gc lc lr wh od tg tr so bd wo be := by
  have cs : (nI s).toNatClampNeg = s := nI_clamp (by omega)
  have i4 : vp_in (nI s) 4 := pk_in s 4 hs
  refine ⟨i4, ?_⟩
  rw [cs]
  exact br_t h8 ⟨i4, i4, br_t hg' hp⟩
/-- Y, the second byte -/
theorem yk_second {post : SY → Prop} {s b o z : Nat} (hs : s < 4) (hb : b < 256) (hyp : yp s = 1) (ho : ki s = nI o) (ho2 : o < 2 ∨ (8 ≤ o ∧ o ≤ 10)) (hml : ml s = nI z) (hz : z ≤ 200)
    (h2 : (b < 128 ∨ b % 128 = 127 ∨ (16 < b % 128 ∧ 8 ≤ o)) → wpY_faults (fun u => match u with | (fr, en, ma, wr, st, lf, cd, ta, bg, kc, ob, ol, pb, pn, yp, ki, le, go, mk, cb, mb, ml, la, ps, pd, pt, kw, kh, kf, kz, ky, th, pl, md, cr, gc, lc, lr, wh, od, tg, tr, so, bd, wo, be) => wY_look_312 post (nI s) fr en ma wr st lf cd ta bg kc ob ol pb pn yp ki le go mk cb mb ml la ps pd pt kw kh kf kz ky th pl md cr gc lc lr wh od tg tr so bd wo be) (fr, en, ma, wr, st, lf, cd, ta, bg, kc, ob, ol, pb, pn, yp, ki, le, go, mk, cb, mb, ml, la, ps, pd, pt, kw, kh, kf, kz, ky, th, pl, md, cr, gc, lc, lr, wh, od, tg, tr, so, bd, wo, be) (nI s) 2)
    (h126 : 128 ≤ b → b % 128 = 126 → o < 8 → post (fr, en, ma, wr, st, lf, cd, ta, bg, kc, ob, ol, pb, pn, upd yp s 2, ki, le, go, mk, cb, mb, ml, la, ps, pd, pt, kw, kh, kf, kz, ky, th, pl, md, cr, gc, lc, lr, wh, od, tg, tr, so, bd, wo, be))
    (h9 : 128 ≤ b → b % 128 < 126 → o < 8 → 200 < z + b % 128 → wpY_faults (fun u => match u with | (fr, en, ma, wr, st, lf, cd, ta, bg, kc, ob, ol, pb, pn, yp, ki, le, go, mk, cb, mb, ml, la, ps, pd, pt, kw, kh, kf, kz, ky, th, pl, md, cr, gc, lc, lr, wh, od, tg, tr, so, bd, wo, be) => wY_look_312 post (nI s) fr en ma wr st lf cd ta bg kc ob ol pb pn yp ki le go mk cb mb ml la ps pd pt kw kh kf kz ky th pl md cr gc lc lr wh od tg tr so bd wo be) (fr, en, ma, wr, st, lf, cd, ta, bg, kc, ob, ol, pb, pn, yp, ki, le, go, mk, cb, mb, ml, la, ps, pd, pt, kw, kh, kf, kz, ky, th, pl, md, cr, gc, lc, lr, wh, od, tg, tr, so, bd, wo, be) (nI s) 9)
    (h0 : 128 ≤ b → b % 128 < 126 → (8 ≤ o → b % 128 ≤ 16) → (8 ≤ o ∨ z + b % 128 ≤ 200) → post (fr, en, ma, wr, st, lf, cd, ta, bg, kc, ob, ol, pb, pn, upd yp s 4, ki, upd le s (nI (b % 128)), upd go s 0, mk, cb, mb, ml, la, ps, pd, pt, kw, kh, kf, kz, ky, th, pl, md, cr, gc, lc, lr, wh, od, tg, tr, so, bd, wo, be)) : wpY_look post (fr, en, ma, wr, st, lf, cd, ta, bg, kc, ob, ol, pb, pn, yp, ki, le, go, mk, cb, mb, ml, la, ps, pd, pt, kw, kh, kf, kz, ky, th, pl, md, cr, gc, lc, lr, wh, od, tg, tr, so, bd, wo, be) (nI s) (nI b) := by
  have cs : (nI s).toNatClampNeg = s := nI_clamp (by omega)
  have i4 : vp_in (nI s) 4 := pk_in s 4 hs
  have e127 := bn_127 b (by omega)
  have f108 : 128 ≤ b → b % 128 ≠ 127 → (b % 128 ≤ 16 ∨ o < 8) → wY_look_108 post (nI s) (nI (b % 128)) fr en ma wr st lf cd ta bg kc ob ol pb pn yp ki le go mk cb mb ml la ps pd pt kw kh kf kz ky th pl md cr gc lc lr wh od tg tr so bd wo be := by
    intro k1 k2 k3
    refine pk_eq (b % 128) 126 (fun e => ⟨i4, ?_⟩) (fun e => ?_)
    · rw [cs]
      exact nm_e (yk_312 hs (Or.inl (by rw [pk_us]; decide)) (h126 k1 e (by omega)))
    · refine yk_begin hs ho ho2 (by omega) hml hz (fun q1 q2 => h9 k1 (by omega) q1 q2) (fun q => ?_)
      exact yk_312 hs (Or.inl (by rw [pk_us]; decide)) (h0 k1 (by omega) (by omega) q)
  refine ⟨i4, ?_⟩
  rw [cs, hyp]
  refine nm_e (br_f (by decide) (br_f (by decide) (br_f (by decide) (br_t rfl ?_))))
  rw [e127]
  refine nm_e (pk_lt b 128 (fun k => h2 (Or.inl k)) (fun k => pk_eq (b % 128) 127 (fun e => h2 (Or.inr (Or.inl e))) (fun e => ⟨i4, ?_⟩)))
  rw [ho]
  exact pk_le o 1 (fun q => f108 k e (Or.inr (by omega))) (fun q => pk_le (b % 128) 16 (fun e2 => f108 k e (Or.inl e2)) (fun e2 => h2 (Or.inr (Or.inr ⟨e2, by omega⟩))))
end LOOK
end
section
/-! a byte is looked at -/
section LK
variable {B : Nat} {A : Nat → List bk_E} {g : Nat → Nat} {st lf cd bg gv ob ol pb pn xp fh fl fa mk cb mi mb ml pa kb kl kc th pl md cr hc hg hi ib il it qi qc gc lc lr co ta yp ki le go la ps pd pt kw kh kf kz ky wh od tg tr so bd wo be : Nat → Int32} {px fr en ma wr : Int32}
theorem lk_look0 (h : bk_S0 B A g st ol th pl md cr lr gv ib il it qi qc ta wh od tg tr so bd fr en hc hg hi kc kb kl kw kh kf kz ky mk cb mb pb pn bg be) {s b z mm : Nat} (hs : s < 4) (hF : ∀ q, q < 4 → q ≠ s → bk_F ml xp fh fl fa mi yp ki le go la ps pd pt q) (hst : st s = 1) (hb : b < 256) (hz : z ≤ 200) (hml : ml s = nI z) (hxp : xp s = 0) (hyp : yp s = 0) (hmi : mi s = nI mm) (hmm : mm ≤ 2) (hpt : pt s = (if mm = 0 then 0 else 1)) (hMi : bk_Mi mi pt pd s) (hB : B + 132 ≤ 100000000) :
    ∃ (A' : Nat → List bk_E) (g' : Nat → Nat) (px' : Int32) (st' : Nat → Int32) (lf' : Nat → Int32) (cd' : Nat → Int32) (bg' : Nat → Int32) (gv' : Nat → Int32) (ob' : Nat → Int32) (ol' : Nat → Int32) (pb' : Nat → Int32) (pn' : Nat → Int32) (xp' : Nat → Int32) (fh' : Nat → Int32) (fl' : Nat → Int32) (fa' : Nat → Int32) (mk' : Nat → Int32) (cb' : Nat → Int32) (mi' : Nat → Int32) (mb' : Nat → Int32) (ml' : Nat → Int32) (pa' : Nat → Int32) (kb' : Nat → Int32) (kl' : Nat → Int32) (kc' : Nat → Int32) (th' : Nat → Int32) (pl' : Nat → Int32) (md' : Nat → Int32) (cr' : Nat → Int32) (hc' : Nat → Int32) (hg' : Nat → Int32) (hi' : Nat → Int32) (ib' : Nat → Int32) (il' : Nat → Int32) (it' : Nat → Int32) (qi' : Nat → Int32) (qc' : Nat → Int32) (gc' : Nat → Int32) (lc' : Nat → Int32) (lr' : Nat → Int32) (co' : Nat → Int32) (fr' : Int32) (en' : Int32) (ma' : Int32) (wr' : Int32) (ta' : Nat → Int32) (yp' : Nat → Int32) (ki' : Nat → Int32) (le' : Nat → Int32) (go' : Nat → Int32) (la' : Nat → Int32) (ps' : Nat → Int32) (pd' : Nat → Int32) (pt' : Nat → Int32) (kw' : Nat → Int32) (kh' : Nat → Int32) (kf' : Nat → Int32) (kz' : Nat → Int32) (ky' : Nat → Int32) (wh' : Nat → Int32) (od' : Nat → Int32) (tg' : Nat → Int32) (tr' : Nat → Int32) (so' : Nat → Int32) (bd' : Nat → Int32) (wo' : Nat → Int32) (be' : Nat → Int32), bk_S (B + 132) A' g' st' ol' th' pl' md' cr' lr' gv' ib' il' it' qi' qc' ta' wh' od' tg' tr' so' bd' fr' en' hc' hg' hi' kc' kb' kl' kw' kh' kf' kz' ky' mk' cb' mb' pb' pn' bg' be' ml' xp' fh' fl' fa' mi' yp' ki' le' go' la' ps' pd' pt' ∧
      (∀ (post : Int32 → SX → Prop) (J39 : Int32 → Int32 → Int32 → (Nat → Int32) → (Nat → Int32) → (Nat → Int32) → (Nat → Int32) → (Nat → Int32) → (Nat → Int32) → (Nat → Int32) → (Nat → Int32) → (Nat → Int32) → (Nat → Int32) → (Nat → Int32) → (Nat → Int32) → (Nat → Int32) → (Nat → Int32) → (Nat → Int32) → (Nat → Int32) → (Nat → Int32) → (Nat → Int32) → (Nat → Int32) → (Nat → Int32) → (Nat → Int32) → (Nat → Int32) → (Nat → Int32) → (Nat → Int32) → (Nat → Int32) → (Nat → Int32) → (Nat → Int32) → (Nat → Int32) → (Nat → Int32) → (Nat → Int32) → (Nat → Int32) → (Nat → Int32) → (Nat → Int32) → (Nat → Int32) → (Nat → Int32) → (Nat → Int32) → (Nat → Int32) → (Nat → Int32) → Prop) (x2 : Int64) (x4 x5 x6 : Int32), wX_feed_135 post J39 (nI s) x2 x4 x5 x6 px' st' lf' cd' bg' gv' ob' ol' pb' pn' xp' fh' fl' fa' mk' cb' mi' mb' ml' pa' kb' kl' kc' th' pl' md' cr' hc' hg' hi' ib' il' it' qi' qc' gc' lc' lr' co' → wpX_readByte (fun r u => match u with | (px, st, lf, cd, bg, gv, ob, ol, pb, pn, xp, fh, fl, fa, mk, cb, mi, mb, ml, pa, kb, kl, kc, th, pl, md, cr, hc, hg, hi, ib, il, it, qi, qc, gc, lc, lr, co) => ((r = 16 → wpX_finishFrame (fun r u => match u with | (px, st, lf, cd, bg, gv, ob, ol, pb, pn, xp, fh, fl, fa, mk, cb, mi, mb, ml, pa, kb, kl, kc, th, pl, md, cr, hc, hg, hi, ib, il, it, qi, qc, gc, lc, lr, co) => wX_feed_93 post J39 (nI s) x2 x4 x5 x6 r px st lf cd bg gv ob ol pb pn xp fh fl fa mk cb mi mb ml pa kb kl kc th pl md cr hc hg hi ib il it qi qc gc lc lr co) (px, st, lf, cd, bg, gv, ob, ol, pb, pn, xp, fh, fl, fa, mk, cb, mi, mb, ml, pa, kb, kl, kc, th, pl, md, cr, hc, hg, hi, ib, il, it, qi, qc, gc, lc, lr, co) (nI s)) ∧ (¬ r = 16 → wX_feed_93 post J39 (nI s) x2 x4 x5 x6 r px st lf cd bg gv ob ol pb pn xp fh fl fa mk cb mi mb ml pa kb kl kc th pl md cr hc hg hi ib il it qi qc gc lc lr co))) (px, st, lf, cd, bg, gv, ob, ol, pb, pn, xp, fh, fl, fa, mk, cb, mi, mb, ml, pa, kb, kl, kc, th, pl, md, cr, hc, hg, hi, ib, il, it, qi, qc, gc, lc, lr, co) (nI s) (nI b)) ∧
      (∀ (post : SY → Prop), post (fr', en', ma', wr', st', lf', cd', ta', bg', kc', ob', ol', pb', pn', yp', ki', le', go', mk', cb', mb', ml', la', ps', pd', pt', kw', kh', kf', kz', ky', th', pl', md', cr', gc', lc', lr', wh', od', tg', tr', so', bd', wo', be') → wpY_look post (fr, en, ma, wr, st, lf, cd, ta, bg, kc, ob, ol, pb, pn, yp, ki, le, go, mk, cb, mb, ml, la, ps, pd, pt, kw, kh, kf, kz, ky, th, pl, md, cr, gc, lc, lr, wh, od, tg, tr, so, bd, wo, be) (nI s) (nI b)) := by
  have cs : (nI s).toNatClampNeg = s := nI_clamp (by omega)
  have i4 : vp_in (nI s) 4 := pk_in s 4 hs
  have xr : ∀ (post : Int32 → SX → Prop), wpX_readFirst (fun r u => match u with | (px, st, lf, cd, bg, gv, ob, ol, pb, pn, xp, fh, fl, fa, mk, cb, mi, mb, ml, pa, kb, kl, kc, th, pl, md, cr, hc, hg, hi, ib, il, it, qi, qc, gc, lc, lr, co) => post r (px, st, lf, cd, bg, gv, ob, ol, pb, pn, xp, fh, fl, fa, mk, cb, mi, mb, ml, pa, kb, kl, kc, th, pl, md, cr, hc, hg, hi, ib, il, it, qi, qc, gc, lc, lr, co)) (px, st, lf, cd, bg, gv, ob, ol, pb, pn, xp, fh, fl, fa, mk, cb, mi, mb, ml, pa, kb, kl, kc, th, pl, md, cr, hc, hg, hi, ib, il, it, qi, qc, gc, lc, lr, co) (nI s) (nI b) → wpX_readByte post (px, st, lf, cd, bg, gv, ob, ol, pb, pn, xp, fh, fl, fa, mk, cb, mi, mb, ml, pa, kb, kl, kc, th, pl, md, cr, hc, hg, hi, ib, il, it, qi, qc, gc, lc, lr, co) (nI s) (nI b) := by
    intro post hp
    refine ⟨i4, ?_⟩
    rw [cs, hxp]
    exact nm_e (br_f (by decide) (br_f (by decide) (br_t rfl hp)))
  have yr : ∀ (post : SY → Prop), wpY_first (fun u => match u with | (fr, en, ma, wr, st, lf, cd, ta, bg, kc, ob, ol, pb, pn, yp, ki, le, go, mk, cb, mb, ml, la, ps, pd, pt, kw, kh, kf, kz, ky, th, pl, md, cr, gc, lc, lr, wh, od, tg, tr, so, bd, wo, be) => wY_look_312 post (nI s) fr en ma wr st lf cd ta bg kc ob ol pb pn yp ki le go mk cb mb ml la ps pd pt kw kh kf kz ky th pl md cr gc lc lr wh od tg tr so bd wo be) (fr, en, ma, wr, st, lf, cd, ta, bg, kc, ob, ol, pb, pn, yp, ki, le, go, mk, cb, mb, ml, la, ps, pd, pt, kw, kh, kf, kz, ky, th, pl, md, cr, gc, lc, lr, wh, od, tg, tr, so, bd, wo, be) (nI s) (nI b) → wpY_look post (fr, en, ma, wr, st, lf, cd, ta, bg, kc, ob, ol, pb, pn, yp, ki, le, go, mk, cb, mb, ml, la, ps, pd, pt, kw, kh, kf, kz, ky, th, pl, md, cr, gc, lc, lr, wh, od, tg, tr, so, bd, wo, be) (nI s) (nI b) := by
    intro post hp
    refine ⟨i4, ?_⟩
    rw [cs, hyp]
    exact nm_e (br_f (by decide) (br_f (by decide) (br_t rfl hp)))
  by_cases ok : bk_V0 b mm
  rotate_left
  · obtain ⟨d, hS, xf, yf⟩ := lk_S_fault (st := st) (bg := bg) (gv := gv) (ob := ob) (ol := ol) (pb := pb) (pn := pn) (xp := xp) (fh := fh) (fl := fl) (fa := fa) (mk := mk) (cb := cb) (mi := mi) (mb := mb) (ml := ml) (kb := kb) (kl := kl) (kc := kc) (th := th) (pl := pl) (md := md) (cr := cr) (hc := hc) (hg := hg) (hi := hi) (ib := ib) (il := il) (it := it) (qi := qi) (qc := qc) (gc := gc) (lc := lc) (lr := lr) (fr := fr) (en := en) (ta := ta) (yp := yp) (ki := ki) (le := le) (go := go) (la := la) (ps := ps) (pd := pd) (pt := pt) (kw := kw) (kh := kh) (kf := kf) (kz := kz) (ky := ky) (wh := wh) (od := od) (tg := tg) (tr := tr) (so := so) (bd := bd) (be := be) h hs hF (by omega) 2
    refine ⟨zz_A d, zz_g d, px, upd st s (nI 2), upd lf s 2, cd, upd bg s 0, zz_gv d, zz_ob d, zz_ol d, pb, pn, upd xp s 0, fh, fl, fa, mk, cb, upd mi s 0, mb, upd ml s 0, pa, kb, kl, upd kc s 0, zz_th d, pl, md, cr, zz_hc d, zz_hg d, zz_hi d, zz_ib d, zz_il d, zz_it d, zz_qi d, zz_qc d, zz_gc d, zz_lc d, zz_lr d, co, zz_fr d, zz_en d, ma, wr, zz_ta d, upd yp s 0, ki, le, go, la, ps, pd, upd pt s 0, kw, kh, kf, kz, ky, zz_wh d, zz_od d, zz_tg d, zz_tr d, zz_so d, zz_bd d, upd wo 0 2, be, bk_S_mono hS (by omega), ?_, ?_⟩
    · intro post J39 x2 x4 x5 x6 hp
      exact xr _ (xk_readFirst hs hb hmi hmm (fun _ => br_f (by decide) (br_f (by decide) (br_f (by decide) (br_f (by decide) (xf _ hp))))) (fun q => absurd q ok) (fun q => absurd q ok) (fun q => absurd q ok))
    · intro post hp
      exact yr _ (yk_first hs hb hpt (fun _ => yf _ (yk_312 hs (Or.inl (by rw [pk_us]; decide)) hp)) (fun q => absurd q ok))
  · obtain ⟨h1, h2⟩ := h
    -- what the message is then
    have fin : ∀ mi' : Nat → Int32, (∀ q, q ≠ s → mi' q = mi q) → ((b % 16 = 1 ∧ mi' s = (if b / 64 % 2 = 0 then 1 else 2)) ∨ (b % 16 ≠ 1 ∧ mi' s = mi s)) →
        bk_S (B + 132) A g st ol th pl md cr lr gv ib il it qi qc ta wh od tg tr so bd fr en hc hg hi kc kb kl kw kh kf kz ky mk cb mb pb pn bg be ml (upd xp s 1) (upd fh s (nI b)) fl fa mi' (upd yp s 1) (upd ki s (nI (b % 16))) le go (upd la s (if b < 128 then 0 else 1)) (upd ps s (if b / 64 % 2 = 0 then 0 else 1)) pd pt := by
      intro mi' mn mc
      refine ⟨⟨dk_mono h1 (by omega), h2⟩, fun q hq => ?_⟩
      by_cases e : q = s
      · subst e
        refine ⟨z, hz, hml, Or.inr ⟨b, b % 16, hb, rfl, pk_us, pk_us, pk_us, pk_us, ?_, Or.inl ⟨pk_us, pk_us⟩⟩⟩
        have mcase : b % 16 ≠ 1 → bk_Mi mi' pt pd q := by
          intro ne
          rcases mc with w | w
          · exact absurd w.1 ne
          · unfold bk_Mi at hMi ⊢
            rw [w.2]
            exact hMi
        rcases ok.2.1 with w | w | w
        · exact Or.inr (Or.inr ⟨w.1, w.2.1, w.2.2, mcase (by omega)⟩)
        · refine Or.inl ⟨w.1, by rw [hpt, if_pos w.2], ?_⟩
          rcases mc with x | x
          · exact x.2
          · exact absurd w.1 x.1
        · exact Or.inr (Or.inl ⟨w.1, by rw [hpt, if_neg w.2], mcase (by omega)⟩)
      · exact bk_F_of (hF q hq e) rfl (pk_un e) (pk_un e) rfl rfl (mn q e) (pk_un e) (pk_un e) rfl rfl (pk_un e) (pk_un e) rfl rfl
    have y1 : ∀ (post : SY → Prop), post (fr, en, ma, wr, st, lf, cd, ta, bg, kc, ob, ol, pb, pn, upd yp s 1, upd ki s (nI (b % 16)), le, go, mk, cb, mb, ml, upd la s (if b < 128 then 0 else 1), upd ps s (if b / 64 % 2 = 0 then 0 else 1), pd, pt, kw, kh, kf, kz, ky, th, pl, md, cr, gc, lc, lr, wh, od, tg, tr, so, bd, wo, be) → wpY_look post (fr, en, ma, wr, st, lf, cd, ta, bg, kc, ob, ol, pb, pn, yp, ki, le, go, mk, cb, mb, ml, la, ps, pd, pt, kw, kh, kf, kz, ky, th, pl, md, cr, gc, lc, lr, wh, od, tg, tr, so, bd, wo, be) (nI s) (nI b) := by
      intro post hp
      exact yr _ (yk_first hs hb hpt (fun q => absurd ok q) (fun _ => yk_312 hs (Or.inl (by rw [pk_us]; decide)) hp))
    by_cases o1 : b % 16 = 1
    · by_cases p0 : b / 64 % 2 = 0
      · refine ⟨A, g, px, st, lf, cd, bg, gv, ob, ol, pb, pn, upd xp s 1, upd fh s (nI b), fl, fa, mk, cb, upd mi s 1, mb, ml, pa, kb, kl, kc, th, pl, md, cr, hc, hg, hi, ib, il, it, qi, qc, gc, lc, lr, co, fr, en, ma, wr, ta, upd yp s 1, upd ki s (nI (b % 16)), le, go, upd la s (if b < 128 then 0 else 1), upd ps s (if b / 64 % 2 = 0 then 0 else 1), pd, pt, kw, kh, kf, kz, ky, wh, od, tg, tr, so, bd, wo, be, fin _ (fun q e => pk_un e) (Or.inl ⟨o1, by rw [pk_us, if_pos p0]⟩), ?_, y1⟩
        intro post J39 x2 x4 x5 x6 hp
        exact xr _ (xk_readFirst hs hb hmi hmm (fun q => absurd ok q) (fun _ q => absurd o1 q) (fun _ _ _ => br_f (by decide) (br_f (by decide) (br_f (by decide) (br_t rfl hp)))) (fun _ _ q => absurd p0 q))
      · refine ⟨A, g, px, st, lf, cd, bg, gv, ob, ol, pb, pn, upd xp s 1, upd fh s (nI b), fl, fa, mk, cb, upd mi s 2, mb, ml, pa, kb, kl, kc, th, pl, md, cr, hc, hg, hi, ib, il, it, qi, qc, gc, lc, lr, co, fr, en, ma, wr, ta, upd yp s 1, upd ki s (nI (b % 16)), le, go, upd la s (if b < 128 then 0 else 1), upd ps s (if b / 64 % 2 = 0 then 0 else 1), pd, pt, kw, kh, kf, kz, ky, wh, od, tg, tr, so, bd, wo, be, fin _ (fun q e => pk_un e) (Or.inl ⟨o1, by rw [pk_us, if_neg p0]⟩), ?_, y1⟩
        intro post J39 x2 x4 x5 x6 hp
        exact xr _ (xk_readFirst hs hb hmi hmm (fun q => absurd ok q) (fun _ q => absurd o1 q) (fun _ _ q => absurd q p0) (fun _ _ _ => br_f (by decide) (br_f (by decide) (br_f (by decide) (br_t rfl hp)))))
    · refine ⟨A, g, px, st, lf, cd, bg, gv, ob, ol, pb, pn, upd xp s 1, upd fh s (nI b), fl, fa, mk, cb, mi, mb, ml, pa, kb, kl, kc, th, pl, md, cr, hc, hg, hi, ib, il, it, qi, qc, gc, lc, lr, co, fr, en, ma, wr, ta, upd yp s 1, upd ki s (nI (b % 16)), le, go, upd la s (if b < 128 then 0 else 1), upd ps s (if b / 64 % 2 = 0 then 0 else 1), pd, pt, kw, kh, kf, kz, ky, wh, od, tg, tr, so, bd, wo, be, fin _ (fun q e => rfl) (Or.inr ⟨o1, rfl⟩), ?_, y1⟩
      intro post J39 x2 x4 x5 x6 hp
      exact xr _ (xk_readFirst hs hb hmi hmm (fun q => absurd ok q) (fun _ _ => br_f (by decide) (br_f (by decide) (br_f (by decide) (br_t rfl hp)))) (fun _ q => absurd q o1) (fun _ q => absurd q o1))
theorem lk_look1 (h : bk_S0 B A g st ol th pl md cr lr gv ib il it qi qc ta wh od tg tr so bd fr en hc hg hi kc kb kl kw kh kf kz ky mk cb mb pb pn bg be) {s b z b0 : Nat} (hs : s < 4) (hF : ∀ q, q < 4 → q ≠ s → bk_F ml xp fh fl fa mi yp ki le go la ps pd pt q) (hst : st s = 1) (hb : b < 256) (hz : z ≤ 200) (hml : ml s = nI z) (hb0 : b0 < 256) (hfh : fh s = nI b0) (hki : ki s = nI (b0 % 16)) (hla : la s = (if b0 < 128 then 0 else 1)) (hps : ps s = (if b0 / 64 % 2 = 0 then 0 else 1)) (hk : (b0 % 16 = 1 ∧ pt s = 0 ∧ mi s = (if b0 / 64 % 2 = 0 then 1 else 2)) ∨ (b0 % 16 = 0 ∧ pt s = 1 ∧ bk_Mi mi pt pd s) ∨ (8 ≤ b0 % 16 ∧ b0 % 16 ≤ 10 ∧ 128 ≤ b0 ∧ bk_Mi mi pt pd s)) (hB : B + 132 ≤ 100000000) (hxp : xp s = 1) (hyp : yp s = 1) :
    ∃ (A' : Nat → List bk_E) (g' : Nat → Nat) (px' : Int32) (st' : Nat → Int32) (lf' : Nat → Int32) (cd' : Nat → Int32) (bg' : Nat → Int32) (gv' : Nat → Int32) (ob' : Nat → Int32) (ol' : Nat → Int32) (pb' : Nat → Int32) (pn' : Nat → Int32) (xp' : Nat → Int32) (fh' : Nat → Int32) (fl' : Nat → Int32) (fa' : Nat → Int32) (mk' : Nat → Int32) (cb' : Nat → Int32) (mi' : Nat → Int32) (mb' : Nat → Int32) (ml' : Nat → Int32) (pa' : Nat → Int32) (kb' : Nat → Int32) (kl' : Nat → Int32) (kc' : Nat → Int32) (th' : Nat → Int32) (pl' : Nat → Int32) (md' : Nat → Int32) (cr' : Nat → Int32) (hc' : Nat → Int32) (hg' : Nat → Int32) (hi' : Nat → Int32) (ib' : Nat → Int32) (il' : Nat → Int32) (it' : Nat → Int32) (qi' : Nat → Int32) (qc' : Nat → Int32) (gc' : Nat → Int32) (lc' : Nat → Int32) (lr' : Nat → Int32) (co' : Nat → Int32) (fr' : Int32) (en' : Int32) (ma' : Int32) (wr' : Int32) (ta' : Nat → Int32) (yp' : Nat → Int32) (ki' : Nat → Int32) (le' : Nat → Int32) (go' : Nat → Int32) (la' : Nat → Int32) (ps' : Nat → Int32) (pd' : Nat → Int32) (pt' : Nat → Int32) (kw' : Nat → Int32) (kh' : Nat → Int32) (kf' : Nat → Int32) (kz' : Nat → Int32) (ky' : Nat → Int32) (wh' : Nat → Int32) (od' : Nat → Int32) (tg' : Nat → Int32) (tr' : Nat → Int32) (so' : Nat → Int32) (bd' : Nat → Int32) (wo' : Nat → Int32) (be' : Nat → Int32), bk_S (B + 132) A' g' st' ol' th' pl' md' cr' lr' gv' ib' il' it' qi' qc' ta' wh' od' tg' tr' so' bd' fr' en' hc' hg' hi' kc' kb' kl' kw' kh' kf' kz' ky' mk' cb' mb' pb' pn' bg' be' ml' xp' fh' fl' fa' mi' yp' ki' le' go' la' ps' pd' pt' ∧
      (∀ (post : Int32 → SX → Prop) (J39 : Int32 → Int32 → Int32 → (Nat → Int32) → (Nat → Int32) → (Nat → Int32) → (Nat → Int32) → (Nat → Int32) → (Nat → Int32) → (Nat → Int32) → (Nat → Int32) → (Nat → Int32) → (Nat → Int32) → (Nat → Int32) → (Nat → Int32) → (Nat → Int32) → (Nat → Int32) → (Nat → Int32) → (Nat → Int32) → (Nat → Int32) → (Nat → Int32) → (Nat → Int32) → (Nat → Int32) → (Nat → Int32) → (Nat → Int32) → (Nat → Int32) → (Nat → Int32) → (Nat → Int32) → (Nat → Int32) → (Nat → Int32) → (Nat → Int32) → (Nat → Int32) → (Nat → Int32) → (Nat → Int32) → (Nat → Int32) → (Nat → Int32) → (Nat → Int32) → (Nat → Int32) → (Nat → Int32) → (Nat → Int32) → (Nat → Int32) → Prop) (x2 : Int64) (x4 x5 x6 : Int32), wX_feed_135 post J39 (nI s) x2 x4 x5 x6 px' st' lf' cd' bg' gv' ob' ol' pb' pn' xp' fh' fl' fa' mk' cb' mi' mb' ml' pa' kb' kl' kc' th' pl' md' cr' hc' hg' hi' ib' il' it' qi' qc' gc' lc' lr' co' → wpX_readByte (fun r u => match u with | (px, st, lf, cd, bg, gv, ob, ol, pb, pn, xp, fh, fl, fa, mk, cb, mi, mb, ml, pa, kb, kl, kc, th, pl, md, cr, hc, hg, hi, ib, il, it, qi, qc, gc, lc, lr, co) => ((r = 16 → wpX_finishFrame (fun r u => match u with | (px, st, lf, cd, bg, gv, ob, ol, pb, pn, xp, fh, fl, fa, mk, cb, mi, mb, ml, pa, kb, kl, kc, th, pl, md, cr, hc, hg, hi, ib, il, it, qi, qc, gc, lc, lr, co) => wX_feed_93 post J39 (nI s) x2 x4 x5 x6 r px st lf cd bg gv ob ol pb pn xp fh fl fa mk cb mi mb ml pa kb kl kc th pl md cr hc hg hi ib il it qi qc gc lc lr co) (px, st, lf, cd, bg, gv, ob, ol, pb, pn, xp, fh, fl, fa, mk, cb, mi, mb, ml, pa, kb, kl, kc, th, pl, md, cr, hc, hg, hi, ib, il, it, qi, qc, gc, lc, lr, co) (nI s)) ∧ (¬ r = 16 → wX_feed_93 post J39 (nI s) x2 x4 x5 x6 r px st lf cd bg gv ob ol pb pn xp fh fl fa mk cb mi mb ml pa kb kl kc th pl md cr hc hg hi ib il it qi qc gc lc lr co))) (px, st, lf, cd, bg, gv, ob, ol, pb, pn, xp, fh, fl, fa, mk, cb, mi, mb, ml, pa, kb, kl, kc, th, pl, md, cr, hc, hg, hi, ib, il, it, qi, qc, gc, lc, lr, co) (nI s) (nI b)) ∧
      (∀ (post : SY → Prop), post (fr', en', ma', wr', st', lf', cd', ta', bg', kc', ob', ol', pb', pn', yp', ki', le', go', mk', cb', mb', ml', la', ps', pd', pt', kw', kh', kf', kz', ky', th', pl', md', cr', gc', lc', lr', wh', od', tg', tr', so', bd', wo', be') → wpY_look post (fr, en, ma, wr, st, lf, cd, ta, bg, kc, ob, ol, pb, pn, yp, ki, le, go, mk, cb, mb, ml, la, ps, pd, pt, kw, kh, kf, kz, ky, th, pl, md, cr, gc, lc, lr, wh, od, tg, tr, so, bd, wo, be) (nI s) (nI b)) := by
  have cs : (nI s).toNatClampNeg = s := nI_clamp (by omega)
  have i4 : vp_in (nI s) 4 := pk_in s 4 hs
  have ho2 : b0 % 16 < 2 ∨ (8 ≤ b0 % 16 ∧ b0 % 16 ≤ 10) := by
    rcases hk with k | k | k <;> omega
  have xr : ∀ (post : Int32 → SX → Prop), wpX_readSecond (fun r u => match u with | (px, st, lf, cd, bg, gv, ob, ol, pb, pn, xp, fh, fl, fa, mk, cb, mi, mb, ml, pa, kb, kl, kc, th, pl, md, cr, hc, hg, hi, ib, il, it, qi, qc, gc, lc, lr, co) => post r (px, st, lf, cd, bg, gv, ob, ol, pb, pn, xp, fh, fl, fa, mk, cb, mi, mb, ml, pa, kb, kl, kc, th, pl, md, cr, hc, hg, hi, ib, il, it, qi, qc, gc, lc, lr, co)) (px, st, lf, cd, bg, gv, ob, ol, pb, pn, xp, fh, fl, fa, mk, cb, mi, mb, ml, pa, kb, kl, kc, th, pl, md, cr, hc, hg, hi, ib, il, it, qi, qc, gc, lc, lr, co) (nI s) (nI b) → wpX_readByte post (px, st, lf, cd, bg, gv, ob, ol, pb, pn, xp, fh, fl, fa, mk, cb, mi, mb, ml, pa, kb, kl, kc, th, pl, md, cr, hc, hg, hi, ib, il, it, qi, qc, gc, lc, lr, co) (nI s) (nI b) := by
    intro post hp
    refine ⟨i4, ?_⟩
    rw [cs, hxp]
    exact nm_e (br_f (by decide) (br_f (by decide) (br_f (by decide) (br_t rfl hp))))
  by_cases bad : b < 128 ∨ b % 128 = 127 ∨ (16 < b % 128 ∧ 8 ≤ b0 % 16)
  · obtain ⟨d, hS, xf, yf⟩ := lk_S_fault (st := st) (bg := bg) (gv := gv) (ob := ob) (ol := ol) (pb := pb) (pn := pn) (xp := xp) (fh := fh) (fl := fl) (fa := fa) (mk := mk) (cb := cb) (mi := mi) (mb := mb) (ml := ml) (kb := kb) (kl := kl) (kc := kc) (th := th) (pl := pl) (md := md) (cr := cr) (hc := hc) (hg := hg) (hi := hi) (ib := ib) (il := il) (it := it) (qi := qi) (qc := qc) (gc := gc) (lc := lc) (lr := lr) (fr := fr) (en := en) (ta := ta) (yp := yp) (ki := ki) (le := le) (go := go) (la := la) (ps := ps) (pd := pd) (pt := pt) (kw := kw) (kh := kh) (kf := kf) (kz := kz) (ky := ky) (wh := wh) (od := od) (tg := tg) (tr := tr) (so := so) (bd := bd) (be := be) h hs hF (by omega) 2
    refine ⟨zz_A d, zz_g d, px, upd st s (nI 2), upd lf s 2, cd, upd bg s 0, zz_gv d, zz_ob d, zz_ol d, pb, pn, upd xp s 0, fh, fl, fa, mk, cb, upd mi s 0, mb, upd ml s 0, pa, kb, kl, upd kc s 0, zz_th d, pl, md, cr, zz_hc d, zz_hg d, zz_hi d, zz_ib d, zz_il d, zz_it d, zz_qi d, zz_qc d, zz_gc d, zz_lc d, zz_lr d, co, zz_fr d, zz_en d, ma, wr, zz_ta d, upd yp s 0, ki, le, go, la, ps, pd, upd pt s 0, kw, kh, kf, kz, ky, zz_wh d, zz_od d, zz_tg d, zz_tr d, zz_so d, zz_bd d, upd wo 0 2, be, bk_S_mono hS (by omega), ?_, ?_⟩
    · intro post J39 x2 x4 x5 x6 hp
      exact xr _ (xk_readSecond hs hb hb0 hfh hml hz (fun _ => br_f (by decide) (br_f (by decide) (br_f (by decide) (br_f (by decide) (xf _ hp))))) (fun _ _ _ => by omega) (fun _ _ _ => by omega) (fun _ _ _ => by omega))
    · intro post hp
      exact yk_second hs hb hyp hki ho2 hml hz (fun _ => yf _ (yk_312 hs (Or.inl (by rw [pk_us]; decide)) hp)) (fun _ _ _ => by omega) (fun _ _ _ => by omega) (fun _ _ _ => by omega)
  · by_cases big : b % 128 < 126 ∧ b0 % 16 < 8 ∧ 200 < z + b % 128
    · obtain ⟨d, hS, xf, yf⟩ := lk_S_fault (st := st) (bg := bg) (gv := gv) (ob := ob) (ol := ol) (pb := pb) (pn := pn) (xp := xp) (fh := fh) (mk := mk) (cb := cb) (mi := mi) (mb := mb) (ml := ml) (kb := kb) (kl := kl) (kc := kc) (th := th) (pl := pl) (md := md) (cr := cr) (hc := hc) (hg := hg) (hi := hi) (ib := ib) (il := il) (it := it) (qi := qi) (qc := qc) (gc := gc) (lc := lc) (lr := lr) (fr := fr) (en := en) (ta := ta) (yp := yp) (ki := ki) (le := le) (go := go) (la := la) (ps := ps) (pd := pd) (pt := pt) (kw := kw) (kh := kh) (kf := kf) (kz := kz) (ky := ky) (wh := wh) (od := od) (tg := tg) (tr := tr) (so := so) (bd := bd) (be := be) (fa := upd fa s 0) (fl := upd fl s (nI (b % 128))) h hs (fun q hq e => bk_F_of (hF q hq e) rfl rfl rfl (pk_un e) (pk_un e) rfl rfl rfl rfl rfl rfl rfl rfl rfl) (by omega) 9
      refine ⟨zz_A d, zz_g d, px, upd st s (nI 2), upd lf s 9, cd, upd bg s 0, zz_gv d, zz_ob d, zz_ol d, pb, pn, upd xp s 0, fh, upd fl s (nI (b % 128)), upd fa s 0, mk, cb, upd mi s 0, mb, upd ml s 0, pa, kb, kl, upd kc s 0, zz_th d, pl, md, cr, zz_hc d, zz_hg d, zz_hi d, zz_ib d, zz_il d, zz_it d, zz_qi d, zz_qc d, zz_gc d, zz_lc d, zz_lr d, co, zz_fr d, zz_en d, ma, wr, zz_ta d, upd yp s 0, ki, le, go, la, ps, pd, upd pt s 0, kw, kh, kf, kz, ky, zz_wh d, zz_od d, zz_tg d, zz_tr d, zz_so d, zz_bd d, upd wo 0 9, be, bk_S_mono hS (by omega), ?_, ?_⟩
      · intro post J39 x2 x4 x5 x6 hp
        exact xr _ (xk_readSecond hs hb hb0 hfh hml hz (fun q => absurd q bad) (fun _ _ _ => by omega) (fun _ _ _ _ => br_f (by decide) (br_f (by decide) (br_f (by decide) (br_f (by decide) (xf _ hp))))) (fun _ _ _ q => by omega))
      · intro post hp
        exact yk_second hs hb hyp hki ho2 hml hz (fun q => absurd q bad) (fun _ _ _ => by omega) (fun _ _ _ _ => yf _ (yk_312 hs (Or.inl (by rw [pk_us]; decide)) hp)) (fun _ _ _ q => by omega)
    · obtain ⟨h1, h2⟩ := h
      by_cases l126 : b % 128 = 126
      · refine ⟨A, g, px, st, lf, cd, bg, gv, ob, ol, pb, pn, upd xp s 2, fh, upd fl s 0, upd fa s 0, mk, cb, mi, mb, ml, pa, kb, kl, kc, th, pl, md, cr, hc, hg, hi, ib, il, it, qi, qc, gc, lc, lr, co, fr, en, ma, wr, ta, upd yp s 2, ki, le, go, la, ps, pd, pt, kw, kh, kf, kz, ky, wh, od, tg, tr, so, bd, wo, be, ⟨⟨dk_mono h1 (by omega), h2⟩, fun q hq => ?_⟩, ?_, ?_⟩
        · by_cases e : q = s
          · subst e
            exact ⟨z, hz, hml, Or.inr ⟨b0, b0 % 16, hb0, rfl, hfh, hki, hla, hps, hk, Or.inr (Or.inl ⟨pk_us, by omega, Or.inl ⟨pk_us, pk_us, pk_us⟩⟩)⟩⟩
          · exact bk_F_of (hF q hq e) rfl (pk_un e) rfl (pk_un e) (pk_un e) rfl (pk_un e) rfl rfl rfl rfl rfl rfl rfl
        · intro post J39 x2 x4 x5 x6 hp
          exact xr _ (xk_readSecond hs hb hb0 hfh hml hz (fun q => absurd q bad) (fun _ _ _ => br_f (by decide) (br_f (by decide) (br_f (by decide) (br_t rfl hp)))) (fun _ _ _ _ => by omega) (fun _ _ _ q => by omega))
        · intro post hp
          exact yk_second hs hb hyp hki ho2 hml hz (fun q => absurd q bad) (fun _ _ _ => hp) (fun _ _ _ _ => by omega) (fun _ _ _ q => by omega)
      · refine ⟨A, g, px, st, lf, cd, bg, gv, ob, ol, pb, pn, upd xp s 3, fh, upd fl s (nI (b % 128)), upd fa s 0, mk, cb, mi, mb, ml, pa, kb, kl, kc, th, pl, md, cr, hc, hg, hi, ib, il, it, qi, qc, gc, lc, lr, co, fr, en, ma, wr, ta, upd yp s 4, ki, upd le s (nI (b % 128)), upd go s 0, la, ps, pd, pt, kw, kh, kf, kz, ky, wh, od, tg, tr, so, bd, wo, be, ⟨⟨dk_mono h1 (by omega), h2⟩, fun q hq => ?_⟩, ?_, ?_⟩
        · by_cases e : q = s
          · subst e
            exact ⟨z, hz, hml, Or.inr ⟨b0, b0 % 16, hb0, rfl, hfh, hki, hla, hps, hk, Or.inr (Or.inr ⟨b % 128, by omega, by omega, pk_us, pk_us, Or.inl ⟨pk_us, by omega, 0, by omega, pk_us, pk_us, pk_us⟩⟩)⟩⟩
          · exact bk_F_of (hF q hq e) rfl (pk_un e) rfl (pk_un e) (pk_un e) rfl (pk_un e) rfl (pk_un e) (pk_un e) rfl rfl rfl rfl
        · intro post J39 x2 x4 x5 x6 hp
          exact xr _ (xk_readSecond hs hb hb0 hfh hml hz (fun q => absurd q bad) (fun _ q _ => absurd q l126) (fun _ _ _ _ => by omega) (fun _ _ _ q => br_f (by decide) (br_f (by decide) (br_f (by decide) (br_t rfl hp)))))
        · intro post hp
          exact yk_second hs hb hyp hki ho2 hml hz (fun q => absurd q bad) (fun _ q _ => absurd q l126) (fun _ _ _ _ => by omega) (fun _ _ _ q => hp)
end LK
end
section
section LK2
variable {B : Nat} {A : Nat → List bk_E} {g : Nat → Nat} {st lf cd bg gv ob ol pb pn xp fh fl fa mk cb mi mb ml pa kb kl kc th pl md cr hc hg hi ib il it qi qc gc lc lr co ta yp ki le go la ps pd pt kw kh kf kz ky wh od tg tr so bd wo be : Nat → Int32} {px fr en ma wr : Int32}
theorem lk_look2 (h : bk_S0 B A g st ol th pl md cr lr gv ib il it qi qc ta wh od tg tr so bd fr en hc hg hi kc kb kl kw kh kf kz ky mk cb mb pb pn bg be) {s b z b0 : Nat} (hs : s < 4) (hF : ∀ q, q < 4 → q ≠ s → bk_F ml xp fh fl fa mi yp ki le go la ps pd pt q) (hst : st s = 1) (hb : b < 256) (hz : z ≤ 200) (hml : ml s = nI z) (hb0 : b0 < 256) (hfh : fh s = nI b0) (hki : ki s = nI (b0 % 16)) (hla : la s = (if b0 < 128 then 0 else 1)) (hps : ps s = (if b0 / 64 % 2 = 0 then 0 else 1)) (hk : (b0 % 16 = 1 ∧ pt s = 0 ∧ mi s = (if b0 / 64 % 2 = 0 then 1 else 2)) ∨ (b0 % 16 = 0 ∧ pt s = 1 ∧ bk_Mi mi pt pd s) ∨ (8 ≤ b0 % 16 ∧ b0 % 16 ≤ 10 ∧ 128 ≤ b0 ∧ bk_Mi mi pt pd s)) (hB : B + 132 ≤ 100000000) (hxp : xp s = 2) (ho8 : b0 % 16 < 8) (hp2 : (fa s = 0 ∧ fl s = 0 ∧ yp s = 2) ∨ (fa s = 1 ∧ yp s = 3 ∧ ∃ h, h < 256 ∧ fl s = nI h ∧ le s = nI (256 * h))) :
    ∃ (A' : Nat → List bk_E) (g' : Nat → Nat) (px' : Int32) (st' : Nat → Int32) (lf' : Nat → Int32) (cd' : Nat → Int32) (bg' : Nat → Int32) (gv' : Nat → Int32) (ob' : Nat → Int32) (ol' : Nat → Int32) (pb' : Nat → Int32) (pn' : Nat → Int32) (xp' : Nat → Int32) (fh' : Nat → Int32) (fl' : Nat → Int32) (fa' : Nat → Int32) (mk' : Nat → Int32) (cb' : Nat → Int32) (mi' : Nat → Int32) (mb' : Nat → Int32) (ml' : Nat → Int32) (pa' : Nat → Int32) (kb' : Nat → Int32) (kl' : Nat → Int32) (kc' : Nat → Int32) (th' : Nat → Int32) (pl' : Nat → Int32) (md' : Nat → Int32) (cr' : Nat → Int32) (hc' : Nat → Int32) (hg' : Nat → Int32) (hi' : Nat → Int32) (ib' : Nat → Int32) (il' : Nat → Int32) (it' : Nat → Int32) (qi' : Nat → Int32) (qc' : Nat → Int32) (gc' : Nat → Int32) (lc' : Nat → Int32) (lr' : Nat → Int32) (co' : Nat → Int32) (fr' : Int32) (en' : Int32) (ma' : Int32) (wr' : Int32) (ta' : Nat → Int32) (yp' : Nat → Int32) (ki' : Nat → Int32) (le' : Nat → Int32) (go' : Nat → Int32) (la' : Nat → Int32) (ps' : Nat → Int32) (pd' : Nat → Int32) (pt' : Nat → Int32) (kw' : Nat → Int32) (kh' : Nat → Int32) (kf' : Nat → Int32) (kz' : Nat → Int32) (ky' : Nat → Int32) (wh' : Nat → Int32) (od' : Nat → Int32) (tg' : Nat → Int32) (tr' : Nat → Int32) (so' : Nat → Int32) (bd' : Nat → Int32) (wo' : Nat → Int32) (be' : Nat → Int32), bk_S (B + 132) A' g' st' ol' th' pl' md' cr' lr' gv' ib' il' it' qi' qc' ta' wh' od' tg' tr' so' bd' fr' en' hc' hg' hi' kc' kb' kl' kw' kh' kf' kz' ky' mk' cb' mb' pb' pn' bg' be' ml' xp' fh' fl' fa' mi' yp' ki' le' go' la' ps' pd' pt' ∧
      (∀ (post : Int32 → SX → Prop) (J39 : Int32 → Int32 → Int32 → (Nat → Int32) → (Nat → Int32) → (Nat → Int32) → (Nat → Int32) → (Nat → Int32) → (Nat → Int32) → (Nat → Int32) → (Nat → Int32) → (Nat → Int32) → (Nat → Int32) → (Nat → Int32) → (Nat → Int32) → (Nat → Int32) → (Nat → Int32) → (Nat → Int32) → (Nat → Int32) → (Nat → Int32) → (Nat → Int32) → (Nat → Int32) → (Nat → Int32) → (Nat → Int32) → (Nat → Int32) → (Nat → Int32) → (Nat → Int32) → (Nat → Int32) → (Nat → Int32) → (Nat → Int32) → (Nat → Int32) → (Nat → Int32) → (Nat → Int32) → (Nat → Int32) → (Nat → Int32) → (Nat → Int32) → (Nat → Int32) → (Nat → Int32) → (Nat → Int32) → (Nat → Int32) → (Nat → Int32) → Prop) (x2 : Int64) (x4 x5 x6 : Int32), wX_feed_135 post J39 (nI s) x2 x4 x5 x6 px' st' lf' cd' bg' gv' ob' ol' pb' pn' xp' fh' fl' fa' mk' cb' mi' mb' ml' pa' kb' kl' kc' th' pl' md' cr' hc' hg' hi' ib' il' it' qi' qc' gc' lc' lr' co' → wpX_readByte (fun r u => match u with | (px, st, lf, cd, bg, gv, ob, ol, pb, pn, xp, fh, fl, fa, mk, cb, mi, mb, ml, pa, kb, kl, kc, th, pl, md, cr, hc, hg, hi, ib, il, it, qi, qc, gc, lc, lr, co) => ((r = 16 → wpX_finishFrame (fun r u => match u with | (px, st, lf, cd, bg, gv, ob, ol, pb, pn, xp, fh, fl, fa, mk, cb, mi, mb, ml, pa, kb, kl, kc, th, pl, md, cr, hc, hg, hi, ib, il, it, qi, qc, gc, lc, lr, co) => wX_feed_93 post J39 (nI s) x2 x4 x5 x6 r px st lf cd bg gv ob ol pb pn xp fh fl fa mk cb mi mb ml pa kb kl kc th pl md cr hc hg hi ib il it qi qc gc lc lr co) (px, st, lf, cd, bg, gv, ob, ol, pb, pn, xp, fh, fl, fa, mk, cb, mi, mb, ml, pa, kb, kl, kc, th, pl, md, cr, hc, hg, hi, ib, il, it, qi, qc, gc, lc, lr, co) (nI s)) ∧ (¬ r = 16 → wX_feed_93 post J39 (nI s) x2 x4 x5 x6 r px st lf cd bg gv ob ol pb pn xp fh fl fa mk cb mi mb ml pa kb kl kc th pl md cr hc hg hi ib il it qi qc gc lc lr co))) (px, st, lf, cd, bg, gv, ob, ol, pb, pn, xp, fh, fl, fa, mk, cb, mi, mb, ml, pa, kb, kl, kc, th, pl, md, cr, hc, hg, hi, ib, il, it, qi, qc, gc, lc, lr, co) (nI s) (nI b)) ∧
      (∀ (post : SY → Prop), post (fr', en', ma', wr', st', lf', cd', ta', bg', kc', ob', ol', pb', pn', yp', ki', le', go', mk', cb', mb', ml', la', ps', pd', pt', kw', kh', kf', kz', ky', th', pl', md', cr', gc', lc', lr', wh', od', tg', tr', so', bd', wo', be') → wpY_look post (fr, en, ma, wr, st, lf, cd, ta, bg, kc, ob, ol, pb, pn, yp, ki, le, go, mk, cb, mb, ml, la, ps, pd, pt, kw, kh, kf, kz, ky, th, pl, md, cr, gc, lc, lr, wh, od, tg, tr, so, bd, wo, be) (nI s) (nI b)) := by
  have cs : (nI s).toNatClampNeg = s := nI_clamp (by omega)
  have i4 : vp_in (nI s) 4 := pk_in s 4 hs
  have ho2 : b0 % 16 < 2 ∨ (8 ≤ b0 % 16 ∧ b0 % 16 ≤ 10) := by
    rcases hk with k | k | k <;> omega
  rcases hp2 with ⟨p1, p2, p3⟩ | ⟨p1, p3, hh, hh2, p2, p4⟩
  · obtain ⟨h1, h2⟩ := h
    have ev : 256 * (0 : Int32) + nI b = nI b := by
      have : (256 : Int32) * 0 = nI 0 := by decide
      rw [this, nI_add, Nat.zero_add]
    refine ⟨A, g, px, st, lf, cd, bg, gv, ob, ol, pb, pn, xp, fh, upd fl s (nI b), upd fa s 1, mk, cb, mi, mb, ml, pa, kb, kl, kc, th, pl, md, cr, hc, hg, hi, ib, il, it, qi, qc, gc, lc, lr, co, fr, en, ma, wr, ta, upd yp s 3, ki, upd le s (nI (256 * b)), go, la, ps, pd, pt, kw, kh, kf, kz, ky, wh, od, tg, tr, so, bd, wo, be, ⟨⟨dk_mono h1 (by omega), h2⟩, fun q hq => ?_⟩, ?_, ?_⟩
    · by_cases e : q = s
      · subst e
        exact ⟨z, hz, hml, Or.inr ⟨b0, b0 % 16, hb0, rfl, hfh, hki, hla, hps, hk, Or.inr (Or.inl ⟨hxp, ho8, Or.inr ⟨pk_us, pk_us, b, hb, pk_us, pk_us⟩⟩)⟩⟩
      · exact bk_F_of (hF q hq e) rfl rfl rfl (pk_un e) (pk_un e) rfl (pk_un e) rfl (pk_un e) rfl rfl rfl rfl rfl
    · intro post J39 x2 x4 x5 x6 hp
      refine ⟨i4, ?_⟩
      rw [cs, hxp]
      refine nm_e (br_f (by decide) (br_f (by decide) (br_f (by decide) (br_f (by decide) (br_t rfl ?_)))))
      refine ⟨i4, ?_⟩
      rw [cs, p1, p2, ev, show (0 : Int32) + 1 = 1 by decide]
      refine ⟨i4, nm_e ⟨i4, i4, nm_e ⟨i4, ?_⟩⟩⟩
      rw [pk_us]
      exact br_f (by decide) (br_f (by decide) (br_f (by decide) (br_f (by decide) (br_t rfl hp))))
    · intro post hp
      have e256 : 256 * nI b = nI (256 * b) := bn_mul2 b 256
      refine ⟨i4, ?_⟩
      rw [cs, p3]
      refine nm_e (br_f (by decide) (br_f (by decide) (br_f (by decide) (br_f (by decide) (br_t rfl ⟨i4, ?_⟩)))))
      rw [e256]
      exact nm_e ⟨i4, nm_e (yk_312 hs (Or.inl (by rw [pk_us]; decide)) hp)⟩
  · have ev : 256 * nI hh + nI b = nI (256 * hh + b) := by rw [bn_mul2, nI_add]
    have ea : (1 : Int32) + 1 = 2 := by decide
    -- X's way to the judgement
    have xr : ∀ (post : Int32 → SX → Prop), (256 * hh + b < 126 → post 2 (px, st, lf, cd, bg, gv, ob, ol, pb, pn, xp, fh, upd fl s (nI (256 * hh + b)), upd fa s 2, mk, cb, mi, mb, ml, pa, kb, kl, kc, th, pl, md, cr, hc, hg, hi, ib, il, it, qi, qc, gc, lc, lr, co)) → (126 ≤ 256 * hh + b → wpX_judgeLength (fun r u => match u with | (px, st, lf, cd, bg, gv, ob, ol, pb, pn, xp, fh, fl, fa, mk, cb, mi, mb, ml, pa, kb, kl, kc, th, pl, md, cr, hc, hg, hi, ib, il, it, qi, qc, gc, lc, lr, co) => post r (px, st, lf, cd, bg, gv, ob, ol, pb, pn, xp, fh, fl, fa, mk, cb, mi, mb, ml, pa, kb, kl, kc, th, pl, md, cr, hc, hg, hi, ib, il, it, qi, qc, gc, lc, lr, co)) (px, st, lf, cd, bg, gv, ob, ol, pb, pn, xp, fh, upd fl s (nI (256 * hh + b)), upd fa s 2, mk, cb, mi, mb, ml, pa, kb, kl, kc, th, pl, md, cr, hc, hg, hi, ib, il, it, qi, qc, gc, lc, lr, co) (nI s)) → wpX_readByte post (px, st, lf, cd, bg, gv, ob, ol, pb, pn, xp, fh, fl, fa, mk, cb, mi, mb, ml, pa, kb, kl, kc, th, pl, md, cr, hc, hg, hi, ib, il, it, qi, qc, gc, lc, lr, co) (nI s) (nI b) := by
      intro post g0 g1
      refine ⟨i4, ?_⟩
      rw [cs, hxp]
      refine nm_e (br_f (by decide) (br_f (by decide) (br_f (by decide) (br_f (by decide) (br_t rfl ?_)))))
      refine ⟨i4, ?_⟩
      rw [cs, p1, p2, ev, ea]
      refine ⟨i4, nm_e ⟨i4, i4, nm_e ⟨i4, ?_⟩⟩⟩
      rw [pk_us, pk_us]
      refine br_t (by decide) ⟨i4, pk_le 126 (256 * hh + b) g1 g0⟩
    have yr : ∀ (post : SY → Prop), (256 * hh + b < 126 → wpY_faults (fun u => match u with | (fr, en, ma, wr, st, lf, cd, ta, bg, kc, ob, ol, pb, pn, yp, ki, le, go, mk, cb, mb, ml, la, ps, pd, pt, kw, kh, kf, kz, ky, th, pl, md, cr, gc, lc, lr, wh, od, tg, tr, so, bd, wo, be) => wY_look_312 post (nI s) fr en ma wr st lf cd ta bg kc ob ol pb pn yp ki le go mk cb mb ml la ps pd pt kw kh kf kz ky th pl md cr gc lc lr wh od tg tr so bd wo be) (fr, en, ma, wr, st, lf, cd, ta, bg, kc, ob, ol, pb, pn, yp, ki, le, go, mk, cb, mb, ml, la, ps, pd, pt, kw, kh, kf, kz, ky, th, pl, md, cr, gc, lc, lr, wh, od, tg, tr, so, bd, wo, be) (nI s) 2) → (126 ≤ 256 * hh + b → wpY_begin (fun u => match u with | (fr, en, ma, wr, st, lf, cd, ta, bg, kc, ob, ol, pb, pn, yp, ki, le, go, mk, cb, mb, ml, la, ps, pd, pt, kw, kh, kf, kz, ky, th, pl, md, cr, gc, lc, lr, wh, od, tg, tr, so, bd, wo, be) => wY_look_312 post (nI s) fr en ma wr st lf cd ta bg kc ob ol pb pn yp ki le go mk cb mb ml la ps pd pt kw kh kf kz ky th pl md cr gc lc lr wh od tg tr so bd wo be) (fr, en, ma, wr, st, lf, cd, ta, bg, kc, ob, ol, pb, pn, yp, ki, le, go, mk, cb, mb, ml, la, ps, pd, pt, kw, kh, kf, kz, ky, th, pl, md, cr, gc, lc, lr, wh, od, tg, tr, so, bd, wo, be) (nI s) (nI (256 * hh + b))) → wpY_look post (fr, en, ma, wr, st, lf, cd, ta, bg, kc, ob, ol, pb, pn, yp, ki, le, go, mk, cb, mb, ml, la, ps, pd, pt, kw, kh, kf, kz, ky, th, pl, md, cr, gc, lc, lr, wh, od, tg, tr, so, bd, wo, be) (nI s) (nI b) := by
      intro post g0 g1
      refine ⟨i4, ?_⟩
      rw [cs, p3]
      refine nm_e (br_f (by decide) (br_f (by decide) (br_f (by decide) (br_f (by decide) (br_f (by decide) (br_t rfl ⟨i4, ?_⟩))))))
      rw [p4]
      exact nm_r (nI_add _ _) (pk_le 126 (256 * hh + b) g1 g0)
    have hF' : ∀ q, q < 4 → q ≠ s → bk_F ml xp fh (upd fl s (nI (256 * hh + b))) (upd fa s 2) mi yp ki le go la ps pd pt q := fun q hq e => bk_F_of (hF q hq e) rfl rfl rfl (pk_un e) (pk_un e) rfl rfl rfl rfl rfl rfl rfl rfl rfl
    by_cases small : 256 * hh + b < 126
    · obtain ⟨d, hS, xf, yf⟩ := lk_S_fault (st := st) (bg := bg) (gv := gv) (ob := ob) (ol := ol) (pb := pb) (pn := pn) (xp := xp) (fh := fh) (mk := mk) (cb := cb) (mi := mi) (mb := mb) (ml := ml) (kb := kb) (kl := kl) (kc := kc) (th := th) (pl := pl) (md := md) (cr := cr) (hc := hc) (hg := hg) (hi := hi) (ib := ib) (il := il) (it := it) (qi := qi) (qc := qc) (gc := gc) (lc := lc) (lr := lr) (fr := fr) (en := en) (ta := ta) (yp := yp) (ki := ki) (le := le) (go := go) (la := la) (ps := ps) (pd := pd) (pt := pt) (kw := kw) (kh := kh) (kf := kf) (kz := kz) (ky := ky) (wh := wh) (od := od) (tg := tg) (tr := tr) (so := so) (bd := bd) (be := be) (fa := upd fa s 2) (fl := upd fl s (nI (256 * hh + b))) h hs hF' (by omega) 2
      refine ⟨zz_A d, zz_g d, px, upd st s (nI 2), upd lf s 2, cd, upd bg s 0, zz_gv d, zz_ob d, zz_ol d, pb, pn, upd xp s 0, fh, upd fl s (nI (256 * hh + b)), upd fa s 2, mk, cb, upd mi s 0, mb, upd ml s 0, pa, kb, kl, upd kc s 0, zz_th d, pl, md, cr, zz_hc d, zz_hg d, zz_hi d, zz_ib d, zz_il d, zz_it d, zz_qi d, zz_qc d, zz_gc d, zz_lc d, zz_lr d, co, zz_fr d, zz_en d, ma, wr, zz_ta d, upd yp s 0, ki, le, go, la, ps, pd, upd pt s 0, kw, kh, kf, kz, ky, zz_wh d, zz_od d, zz_tg d, zz_tr d, zz_so d, zz_bd d, upd wo 0 2, be, bk_S_mono hS (by omega), ?_, ?_⟩
      · intro post J39 x2 x4 x5 x6 hp
        exact xr _ (fun _ => br_f (by decide) (br_f (by decide) (br_f (by decide) (br_f (by decide) (xf _ hp))))) (fun q => by omega)
      · intro post hp
        exact yr _ (fun _ => yf _ (yk_312 hs (Or.inl (by rw [pk_us]; decide)) hp)) (fun q => by omega)
    · by_cases big : 200 < z + (256 * hh + b)
      · obtain ⟨d, hS, xf, yf⟩ := lk_S_fault (st := st) (bg := bg) (gv := gv) (ob := ob) (ol := ol) (pb := pb) (pn := pn) (xp := xp) (fh := fh) (mk := mk) (cb := cb) (mi := mi) (mb := mb) (ml := ml) (kb := kb) (kl := kl) (kc := kc) (th := th) (pl := pl) (md := md) (cr := cr) (hc := hc) (hg := hg) (hi := hi) (ib := ib) (il := il) (it := it) (qi := qi) (qc := qc) (gc := gc) (lc := lc) (lr := lr) (fr := fr) (en := en) (ta := ta) (yp := yp) (ki := ki) (le := le) (go := go) (la := la) (ps := ps) (pd := pd) (pt := pt) (kw := kw) (kh := kh) (kf := kf) (kz := kz) (ky := ky) (wh := wh) (od := od) (tg := tg) (tr := tr) (so := so) (bd := bd) (be := be) (fa := upd fa s 2) (fl := upd fl s (nI (256 * hh + b))) h hs hF' (by omega) 9
        refine ⟨zz_A d, zz_g d, px, upd st s (nI 2), upd lf s 9, cd, upd bg s 0, zz_gv d, zz_ob d, zz_ol d, pb, pn, upd xp s 0, fh, upd fl s (nI (256 * hh + b)), upd fa s 2, mk, cb, upd mi s 0, mb, upd ml s 0, pa, kb, kl, upd kc s 0, zz_th d, pl, md, cr, zz_hc d, zz_hg d, zz_hi d, zz_ib d, zz_il d, zz_it d, zz_qi d, zz_qc d, zz_gc d, zz_lc d, zz_lr d, co, zz_fr d, zz_en d, ma, wr, zz_ta d, upd yp s 0, ki, le, go, la, ps, pd, upd pt s 0, kw, kh, kf, kz, ky, zz_wh d, zz_od d, zz_tg d, zz_tr d, zz_so d, zz_bd d, upd wo 0 9, be, bk_S_mono hS (by omega), ?_, ?_⟩
        · intro post J39 x2 x4 x5 x6 hp
          exact xr _ (fun q => absurd q small) (fun _ => xk_judge (b := b0) (n := 256 * hh + b) hs hb0 hfh pk_us (by omega) hml hz (fun _ _ => br_f (by decide) (br_f (by decide) (br_f (by decide) (br_f (by decide) (xf _ hp))))) (fun q => by omega))
        · intro post hp
          exact yr _ (fun q => absurd q small) (fun _ => yk_begin hs hki ho2 (by omega) hml hz (fun _ _ => yf _ (yk_312 hs (Or.inl (by rw [pk_us]; decide)) hp)) (fun q => by omega))
      · obtain ⟨h1, h2⟩ := h
        refine ⟨A, g, px, st, lf, cd, bg, gv, ob, ol, pb, pn, upd xp s 3, fh, upd fl s (nI (256 * hh + b)), upd fa s 0, mk, cb, mi, mb, ml, pa, kb, kl, kc, th, pl, md, cr, hc, hg, hi, ib, il, it, qi, qc, gc, lc, lr, co, fr, en, ma, wr, ta, upd yp s 4, ki, upd le s (nI (256 * hh + b)), upd go s 0, la, ps, pd, pt, kw, kh, kf, kz, ky, wh, od, tg, tr, so, bd, wo, be, ⟨⟨dk_mono h1 (by omega), h2⟩, fun q hq => ?_⟩, ?_, ?_⟩
        · by_cases e : q = s
          · subst e
            exact ⟨z, hz, hml, Or.inr ⟨b0, b0 % 16, hb0, rfl, hfh, hki, hla, hps, hk, Or.inr (Or.inr ⟨256 * hh + b, by omega, by omega, pk_us, pk_us, Or.inl ⟨pk_us, by omega, 0, by omega, pk_us, pk_us, pk_us⟩⟩)⟩⟩
          · exact bk_F_of (hF q hq e) rfl (pk_un e) rfl (pk_un e) (pk_un e) rfl (pk_un e) rfl (pk_un e) (pk_un e) rfl rfl rfl rfl
        · intro post J39 x2 x4 x5 x6 hp
          refine xr _ (fun q => absurd q small) (fun _ => xk_judge (b := b0) (n := 256 * hh + b) hs hb0 hfh pk_us (by omega) hml hz (fun _ q => absurd q big) (fun q => ?_))
          rw [bk_uu]
          exact br_f (by decide) (br_f (by decide) (br_f (by decide) (br_t rfl hp)))
        · intro post hp
          exact yr _ (fun q => absurd q small) (fun _ => yk_begin hs hki ho2 (by omega) hml hz (fun _ q => absurd q big) (fun q => yk_312 hs (Or.inl (by rw [pk_us]; decide)) hp))
theorem lk_look3 (h : bk_S0 B A g st ol th pl md cr lr gv ib il it qi qc ta wh od tg tr so bd fr en hc hg hi kc kb kl kw kh kf kz ky mk cb mb pb pn bg be) {s b z b0 : Nat} (hs : s < 4) (hF : ∀ q, q < 4 → q ≠ s → bk_F ml xp fh fl fa mi yp ki le go la ps pd pt q) (hst : st s = 1) (hb : b < 256) (hz : z ≤ 200) (hml : ml s = nI z) (hb0 : b0 < 256) (hfh : fh s = nI b0) (hki : ki s = nI (b0 % 16)) (hla : la s = (if b0 < 128 then 0 else 1)) (hps : ps s = (if b0 / 64 % 2 = 0 then 0 else 1)) (hk : (b0 % 16 = 1 ∧ pt s = 0 ∧ mi s = (if b0 / 64 % 2 = 0 then 1 else 2)) ∨ (b0 % 16 = 0 ∧ pt s = 1 ∧ bk_Mi mi pt pd s) ∨ (8 ≤ b0 % 16 ∧ b0 % 16 ≤ 10 ∧ 128 ≤ b0 ∧ bk_Mi mi pt pd s)) (hB : B + 132 ≤ 100000000) {n a : Nat} (hxp : xp s = 3) (ha : a < 4) (hn : 8 ≤ b0 % 16 → n ≤ 16) (hfl : fl s = nI n) (hle : le s = nI n) (hzn : b0 % 16 < 8 → z + n ≤ 200) (hfa : fa s = nI a) (hyp : yp s = nI (4 + a)) (hgo : go s = 0) :
    ∃ (A' : Nat → List bk_E) (g' : Nat → Nat) (px' : Int32) (st' : Nat → Int32) (lf' : Nat → Int32) (cd' : Nat → Int32) (bg' : Nat → Int32) (gv' : Nat → Int32) (ob' : Nat → Int32) (ol' : Nat → Int32) (pb' : Nat → Int32) (pn' : Nat → Int32) (xp' : Nat → Int32) (fh' : Nat → Int32) (fl' : Nat → Int32) (fa' : Nat → Int32) (mk' : Nat → Int32) (cb' : Nat → Int32) (mi' : Nat → Int32) (mb' : Nat → Int32) (ml' : Nat → Int32) (pa' : Nat → Int32) (kb' : Nat → Int32) (kl' : Nat → Int32) (kc' : Nat → Int32) (th' : Nat → Int32) (pl' : Nat → Int32) (md' : Nat → Int32) (cr' : Nat → Int32) (hc' : Nat → Int32) (hg' : Nat → Int32) (hi' : Nat → Int32) (ib' : Nat → Int32) (il' : Nat → Int32) (it' : Nat → Int32) (qi' : Nat → Int32) (qc' : Nat → Int32) (gc' : Nat → Int32) (lc' : Nat → Int32) (lr' : Nat → Int32) (co' : Nat → Int32) (fr' : Int32) (en' : Int32) (ma' : Int32) (wr' : Int32) (ta' : Nat → Int32) (yp' : Nat → Int32) (ki' : Nat → Int32) (le' : Nat → Int32) (go' : Nat → Int32) (la' : Nat → Int32) (ps' : Nat → Int32) (pd' : Nat → Int32) (pt' : Nat → Int32) (kw' : Nat → Int32) (kh' : Nat → Int32) (kf' : Nat → Int32) (kz' : Nat → Int32) (ky' : Nat → Int32) (wh' : Nat → Int32) (od' : Nat → Int32) (tg' : Nat → Int32) (tr' : Nat → Int32) (so' : Nat → Int32) (bd' : Nat → Int32) (wo' : Nat → Int32) (be' : Nat → Int32), bk_S (B + 132) A' g' st' ol' th' pl' md' cr' lr' gv' ib' il' it' qi' qc' ta' wh' od' tg' tr' so' bd' fr' en' hc' hg' hi' kc' kb' kl' kw' kh' kf' kz' ky' mk' cb' mb' pb' pn' bg' be' ml' xp' fh' fl' fa' mi' yp' ki' le' go' la' ps' pd' pt' ∧
      (∀ (post : Int32 → SX → Prop) (J39 : Int32 → Int32 → Int32 → (Nat → Int32) → (Nat → Int32) → (Nat → Int32) → (Nat → Int32) → (Nat → Int32) → (Nat → Int32) → (Nat → Int32) → (Nat → Int32) → (Nat → Int32) → (Nat → Int32) → (Nat → Int32) → (Nat → Int32) → (Nat → Int32) → (Nat → Int32) → (Nat → Int32) → (Nat → Int32) → (Nat → Int32) → (Nat → Int32) → (Nat → Int32) → (Nat → Int32) → (Nat → Int32) → (Nat → Int32) → (Nat → Int32) → (Nat → Int32) → (Nat → Int32) → (Nat → Int32) → (Nat → Int32) → (Nat → Int32) → (Nat → Int32) → (Nat → Int32) → (Nat → Int32) → (Nat → Int32) → (Nat → Int32) → (Nat → Int32) → (Nat → Int32) → (Nat → Int32) → (Nat → Int32) → (Nat → Int32) → Prop) (x2 : Int64) (x4 x5 x6 : Int32), wX_feed_135 post J39 (nI s) x2 x4 x5 x6 px' st' lf' cd' bg' gv' ob' ol' pb' pn' xp' fh' fl' fa' mk' cb' mi' mb' ml' pa' kb' kl' kc' th' pl' md' cr' hc' hg' hi' ib' il' it' qi' qc' gc' lc' lr' co' → wpX_readByte (fun r u => match u with | (px, st, lf, cd, bg, gv, ob, ol, pb, pn, xp, fh, fl, fa, mk, cb, mi, mb, ml, pa, kb, kl, kc, th, pl, md, cr, hc, hg, hi, ib, il, it, qi, qc, gc, lc, lr, co) => ((r = 16 → wpX_finishFrame (fun r u => match u with | (px, st, lf, cd, bg, gv, ob, ol, pb, pn, xp, fh, fl, fa, mk, cb, mi, mb, ml, pa, kb, kl, kc, th, pl, md, cr, hc, hg, hi, ib, il, it, qi, qc, gc, lc, lr, co) => wX_feed_93 post J39 (nI s) x2 x4 x5 x6 r px st lf cd bg gv ob ol pb pn xp fh fl fa mk cb mi mb ml pa kb kl kc th pl md cr hc hg hi ib il it qi qc gc lc lr co) (px, st, lf, cd, bg, gv, ob, ol, pb, pn, xp, fh, fl, fa, mk, cb, mi, mb, ml, pa, kb, kl, kc, th, pl, md, cr, hc, hg, hi, ib, il, it, qi, qc, gc, lc, lr, co) (nI s)) ∧ (¬ r = 16 → wX_feed_93 post J39 (nI s) x2 x4 x5 x6 r px st lf cd bg gv ob ol pb pn xp fh fl fa mk cb mi mb ml pa kb kl kc th pl md cr hc hg hi ib il it qi qc gc lc lr co))) (px, st, lf, cd, bg, gv, ob, ol, pb, pn, xp, fh, fl, fa, mk, cb, mi, mb, ml, pa, kb, kl, kc, th, pl, md, cr, hc, hg, hi, ib, il, it, qi, qc, gc, lc, lr, co) (nI s) (nI b)) ∧
      (∀ (post : SY → Prop), post (fr', en', ma', wr', st', lf', cd', ta', bg', kc', ob', ol', pb', pn', yp', ki', le', go', mk', cb', mb', ml', la', ps', pd', pt', kw', kh', kf', kz', ky', th', pl', md', cr', gc', lc', lr', wh', od', tg', tr', so', bd', wo', be') → wpY_look post (fr, en, ma, wr, st, lf, cd, ta, bg, kc, ob, ol, pb, pn, yp, ki, le, go, mk, cb, mb, ml, la, ps, pd, pt, kw, kh, kf, kz, ky, th, pl, md, cr, gc, lc, lr, wh, od, tg, tr, so, bd, wo, be) (nI s) (nI b)) := by
  have cs : (nI s).toNatClampNeg = s := nI_clamp (by omega)
  have i4 : vp_in (nI s) 4 := pk_in s 4 hs
  have hn200 : n ≤ 200 := by
    by_cases q : 8 ≤ b0 % 16
    · have := hn q; omega
    · have := hzn (by omega); omega
  have e4 : nI s * 4 + nI a = nI (4 * s + a) := by rw [bn_mul, nI_add, Nat.mul_comm]
  have c4 : (nI (4 * s + a)).toNatClampNeg = 4 * s + a := nI_clamp (by omega)
  have y4 : 4 * nI s + nI (4 + a) - 4 = nI (4 * s + a) := by
    rw [bn_mul2, nI_add]
    exact (pk_sub (a := 4 * s + (4 + a)) (b := 4) (by omega)).trans (congrArg nI (by omega))
  have mkB : bk_By (upd mk (4 * s + a) (nI b)) := bk_Byu h.2.2.2.1.1 hb
  have xr : ∀ (post : Int32 → SX → Prop), (a < 3 → post 0 (px, st, lf, cd, bg, gv, ob, ol, pb, pn, xp, fh, fl, upd fa s (nI (a + 1)), upd mk (4 * s + a) (nI b), cb, mi, mb, ml, pa, kb, kl, kc, th, pl, md, cr, hc, hg, hi, ib, il, it, qi, qc, gc, lc, lr, co)) → (a = 3 → n = 0 → post 16 (px, st, lf, cd, bg, gv, ob, ol, pb, pn, upd xp s 4, fh, fl, upd fa s 0, upd mk (4 * s + a) (nI b), cb, mi, mb, ml, pa, kb, kl, kc, th, pl, md, cr, hc, hg, hi, ib, il, it, qi, qc, gc, lc, lr, co)) → (a = 3 → n ≠ 0 → post 0 (px, st, lf, cd, bg, gv, ob, ol, pb, pn, upd xp s 4, fh, fl, upd fa s 0, upd mk (4 * s + a) (nI b), cb, mi, mb, ml, pa, kb, kl, kc, th, pl, md, cr, hc, hg, hi, ib, il, it, qi, qc, gc, lc, lr, co)) → wpX_readByte post (px, st, lf, cd, bg, gv, ob, ol, pb, pn, xp, fh, fl, fa, mk, cb, mi, mb, ml, pa, kb, kl, kc, th, pl, md, cr, hc, hg, hi, ib, il, it, qi, qc, gc, lc, lr, co) (nI s) (nI b) := by
    intro post g0 g1 g2
    refine ⟨i4, ?_⟩
    rw [cs, hxp]
    refine nm_e (br_f (by decide) (br_f (by decide) (br_f (by decide) (br_f (by decide) (br_f (by decide) (br_t rfl ?_))))))
    refine ⟨i4, ?_⟩
    rw [cs, hfa, e4, c4, nI_1 a]
    refine ⟨vp_in_nI (by omega) (by omega), nm_e ⟨i4, i4, nm_e ⟨i4, ?_⟩⟩⟩
    rw [pk_us]
    refine pk_le 4 (a + 1) (fun q => ⟨i4, ?_⟩) (fun q => g0 (by omega))
    rw [bk_uu]
    refine nm_e ⟨i4, nm_e ⟨i4, ?_⟩⟩
    rw [hfl]
    exact pk_eq n 0 (fun e => g1 (by omega) e) (fun e => g2 (by omega) e)
  have yr : ∀ (post : SY → Prop), wY_look_312 post (nI s) fr en ma wr st lf cd ta bg kc ob ol pb pn (upd yp s (nI (4 + a + 1))) ki le go (upd mk (4 * s + a) (nI b)) cb mb ml la ps pd pt kw kh kf kz ky th pl md cr gc lc lr wh od tg tr so bd wo be → wpY_look post (fr, en, ma, wr, st, lf, cd, ta, bg, kc, ob, ol, pb, pn, yp, ki, le, go, mk, cb, mb, ml, la, ps, pd, pt, kw, kh, kf, kz, ky, th, pl, md, cr, gc, lc, lr, wh, od, tg, tr, so, bd, wo, be) (nI s) (nI b) := by
    intro post hp
    have f : wY_look_284 post (nI s) (nI b) fr en ma wr st lf cd ta bg kc ob ol pb pn yp ki le go mk cb mb ml la ps pd pt kw kh kf kz ky th pl md cr gc lc lr wh od tg tr so bd wo be := by
      refine ⟨i4, ?_⟩
      rw [cs, hyp, y4, c4, nI_1]
      exact ⟨vp_in_nI (by omega) (by omega), nm_e ⟨i4, i4, nm_e hp⟩⟩
    refine ⟨i4, ?_⟩
    rw [cs, hyp]
    refine nm_e (br_f (nI_pos (by omega)) (br_f (nI_nlt (a := 8) (by omega) (by omega)) ?_))
    have aa : a = 0 ∨ a = 1 ∨ a = 2 ∨ a = 3 := by omega
    rcases aa with rfl | rfl | rfl | rfl
    · exact br_f (by decide) (br_f (by decide) (br_f (by decide) (br_f (by decide) (br_t rfl f))))
    · exact br_f (by decide) (br_f (by decide) (br_f (by decide) (br_f (by decide) (br_f (by decide) (br_t rfl f)))))
    · exact br_f (by decide) (br_f (by decide) (br_f (by decide) (br_f (by decide) (br_f (by decide) (br_f (by decide) (br_t rfl f))))))
    · exact br_f (by decide) (br_f (by decide) (br_f (by decide) (br_f (by decide) (br_f (by decide) (br_f (by decide) (br_f (by decide) (br_t rfl f)))))))
  have hS0 : bk_S0 B A g st ol th pl md cr lr gv ib il it qi qc ta wh od tg tr so bd fr en hc hg hi kc kb kl kw kh kf kz ky (upd mk (4 * s + a) (nI b)) cb mb pb pn bg be := ⟨h.1, h.2.1, h.2.2.1, ⟨mkB, h.2.2.2.1.2⟩, h.2.2.2.2⟩
  by_cases a3 : a = 3
  rotate_left
  · refine ⟨A, g, px, st, lf, cd, bg, gv, ob, ol, pb, pn, xp, fh, fl, upd fa s (nI (a + 1)), upd mk (4 * s + a) (nI b), cb, mi, mb, ml, pa, kb, kl, kc, th, pl, md, cr, hc, hg, hi, ib, il, it, qi, qc, gc, lc, lr, co, fr, en, ma, wr, ta, upd yp s (nI (4 + a + 1)), ki, le, go, la, ps, pd, pt, kw, kh, kf, kz, ky, wh, od, tg, tr, so, bd, wo, be, ⟨⟨dk_mono hS0.1 (by omega), hS0.2⟩, fun q hq => ?_⟩, ?_, ?_⟩
    · by_cases e : q = s
      · subst e
        exact ⟨z, hz, hml, Or.inr ⟨b0, b0 % 16, hb0, rfl, hfh, hki, hla, hps, hk, Or.inr (Or.inr ⟨n, hn200, hn, hfl, hle, Or.inl ⟨hxp, hzn, a + 1, by omega, pk_us, pk_us, hgo⟩⟩)⟩⟩
      · exact bk_F_of (hF q hq e) rfl rfl rfl rfl (pk_un e) rfl (pk_un e) rfl rfl rfl rfl rfl rfl rfl
    · intro post J39 x2 x4 x5 x6 hp
      exact xr _ (fun _ => br_f (by decide) (br_f (by decide) (br_f (by decide) (br_t rfl hp)))) (fun q => absurd q a3) (fun q => absurd q a3)
    · intro post hp
      exact yr _ (yk_312 hs (Or.inl (by rw [pk_us]; exact fun q => by have := (nI_eq (a := 4 + a + 1) (b := 8) (by omega) (by omega)).mp q; omega)) hp)
  · subst a3
    have hF' : ∀ q, q < 4 → q ≠ s → bk_F ml (upd xp s 4) fh fl (upd fa s 0) mi (upd yp s (nI (4 + 3 + 1))) ki le go la ps pd pt q := fun q hq e => bk_F_of (hF q hq e) rfl (pk_un e) rfl rfl (pk_un e) rfl (pk_un e) rfl rfl rfl rfl rfl rfl rfl
    by_cases n0 : n = 0
    · subst n0
      obtain ⟨A', g', px', st', lf', cd', bg', gv', ob', ol', pb', pn', xp', fh', fl', fa', mk', cb', mi', mb', ml', pa', kb', kl', kc', th', pl', md', cr', hc', hg', hi', ib', il', it', qi', qc', gc', lc', lr', co', fr', en', ma', wr', ta', yp', ki', le', go', la', ps', pd', pt', kw', kh', kf', kz', ky', wh', od', tg', tr', so', bd', wo', be', hS, x1, y1⟩ := lk_done (px := px) (st := st) (lf := lf) (cd := cd) (bg := bg) (gv := gv) (ob := ob) (ol := ol) (pb := pb) (pn := pn) (fh := fh) (fl := fl) (cb := cb) (mi := mi) (mb := mb) (ml := ml) (pa := pa) (kb := kb) (kl := kl) (kc := kc) (th := th) (pl := pl) (md := md) (cr := cr) (hc := hc) (hg := hg) (hi := hi) (ib := ib) (il := il) (it := it) (qi := qi) (qc := qc) (gc := gc) (lc := lc) (lr := lr) (co := co) (fr := fr) (en := en) (ma := ma) (wr := wr) (ta := ta) (ki := ki) (le := le) (go := go) (la := la) (ps := ps) (pd := pd) (pt := pt) (kw := kw) (kh := kh) (kf := kf) (kz := kz) (ky := ky) (wh := wh) (od := od) (tg := tg) (tr := tr) (so := so) (bd := bd) (wo := wo) (be := be) (mk := upd mk (4 * s + 3) (nI b)) (fa := upd fa s 0) (xp := upd xp s 4) (yp := upd yp s (nI (4 + 3 + 1))) hS0 hs hF' hst hz hml hb0 hfh hki hla hps hk hn hfl hle hB
      refine ⟨A', g', px', st', lf', cd', bg', gv', ob', ol', pb', pn', xp', fh', fl', fa', mk', cb', mi', mb', ml', pa', kb', kl', kc', th', pl', md', cr', hc', hg', hi', ib', il', it', qi', qc', gc', lc', lr', co', fr', en', ma', wr', ta', yp', ki', le', go', la', ps', pd', pt', kw', kh', kf', kz', ky', wh', od', tg', tr', so', bd', wo', be', hS, ?_, ?_⟩
      · intro post J39 x2 x4 x5 x6 hp
        exact xr _ (fun q => by omega) (fun _ _ => br_t rfl (x1 post J39 x2 x4 x5 x6 hp)) (fun _ q => absurd rfl q)
      · intro post hp
        exact yr _ (yk_312d hs pk_us (by rw [hgo, hle]; rfl) (y1 _ hp))
    · refine ⟨A, g, px, st, lf, cd, bg, gv, ob, ol, pb, pn, upd xp s 4, fh, fl, upd fa s 0, upd mk (4 * s + 3) (nI b), cb, mi, mb, ml, pa, kb, kl, kc, th, pl, md, cr, hc, hg, hi, ib, il, it, qi, qc, gc, lc, lr, co, fr, en, ma, wr, ta, upd yp s (nI (4 + 3 + 1)), ki, le, go, la, ps, pd, pt, kw, kh, kf, kz, ky, wh, od, tg, tr, so, bd, wo, be, ⟨⟨dk_mono hS0.1 (by omega), hS0.2⟩, fun q hq => ?_⟩, ?_, ?_⟩
      · by_cases e : q = s
        · subst e
          exact ⟨z, hz, hml, Or.inr ⟨b0, b0 % 16, hb0, rfl, hfh, hki, hla, hps, hk, Or.inr (Or.inr ⟨n, hn200, hn, hfl, hle, Or.inr ⟨pk_us, pk_us, 0, by omega, pk_us, hgo, fun w => by have := hzn w; omega⟩⟩)⟩⟩
        · exact hF' q hq e
      · intro post J39 x2 x4 x5 x6 hp
        exact xr _ (fun q => by omega) (fun _ q => absurd q n0) (fun _ _ => br_f (by decide) (br_f (by decide) (br_f (by decide) (br_t rfl hp))))
      · intro post hp
        exact yr _ (yk_312 hs (Or.inr (by rw [hgo, hle]; exact fun q => n0 ((nI_eq (a := 0) (b := n) (by omega) (by omega)).mp q).symm)) hp)
end LK2
end
section
section LK4
variable {B : Nat} {A : Nat → List bk_E} {g : Nat → Nat} {st lf cd bg gv ob ol pb pn xp fh fl fa mk cb mi mb ml pa kb kl kc th pl md cr hc hg hi ib il it qi qc gc lc lr co ta yp ki le go la ps pd pt kw kh kf kz ky wh od tg tr so bd wo be : Nat → Int32} {px fr en ma wr : Int32}
theorem xk_readData {post : Int32 → SX → Prop} {s b b0 a n z v : Nat} (hs : s < 4) (hb0 : b0 < 256) (hfh : fh s = nI b0) (ha : a < n) (hn : n ≤ 200) (hn16 : 8 ≤ b0 % 16 → n ≤ 16) (hfa : fa s = nI a) (hfl : fl s = nI n) (hml : ml s = nI z) (hz : b0 % 16 < 8 → z < 200) (hv : nI b ^^^ mk (4 * s + a % 4) = nI v)
    (hc1 : 8 ≤ b0 % 16 → a + 1 = n → post 16 (px, st, lf, cd, bg, gv, ob, ol, pb, pn, xp, fh, fl, upd fa s (nI (a + 1)), mk, upd cb (16 * s + a) (nI v), mi, mb, ml, pa, kb, kl, kc, th, pl, md, cr, hc, hg, hi, ib, il, it, qi, qc, gc, lc, lr, co)) (hc0 : 8 ≤ b0 % 16 → a + 1 ≠ n → post 0 (px, st, lf, cd, bg, gv, ob, ol, pb, pn, xp, fh, fl, upd fa s (nI (a + 1)), mk, upd cb (16 * s + a) (nI v), mi, mb, ml, pa, kb, kl, kc, th, pl, md, cr, hc, hg, hi, ib, il, it, qi, qc, gc, lc, lr, co))
    (hm1 : b0 % 16 < 8 → a + 1 = n → post 16 (px, st, lf, cd, bg, gv, ob, ol, pb, pn, xp, fh, fl, upd fa s (nI (a + 1)), mk, cb, mi, upd mb (200 * s + z) (nI v), upd ml s (nI (z + 1)), pa, kb, kl, kc, th, pl, md, cr, hc, hg, hi, ib, il, it, qi, qc, gc, lc, lr, co)) (hm0 : b0 % 16 < 8 → a + 1 ≠ n → post 0 (px, st, lf, cd, bg, gv, ob, ol, pb, pn, xp, fh, fl, upd fa s (nI (a + 1)), mk, cb, mi, upd mb (200 * s + z) (nI v), upd ml s (nI (z + 1)), pa, kb, kl, kc, th, pl, md, cr, hc, hg, hi, ib, il, it, qi, qc, gc, lc, lr, co)) : wpX_readData post (px, st, lf, cd, bg, gv, ob, ol, pb, pn, xp, fh, fl, fa, mk, cb, mi, mb, ml, pa, kb, kl, kc, th, pl, md, cr, hc, hg, hi, ib, il, it, qi, qc, gc, lc, lr, co) (nI s) (nI b) := by
  have cs : (nI s).toNatClampNeg = s := nI_clamp (by omega)
  have i4 : vp_in (nI s) 4 := pk_in s 4 hs
  have er : nI a - nI a / 4 * 4 = nI (a % 4) := pk_rem (a := a) (d := 4) (by omega) (by decide) (by decide)
  have e4 : nI s * 4 + nI (a % 4) = nI (4 * s + a % 4) := by rw [bn_mul, nI_add, Nat.mul_comm]
  have c4 : (nI (4 * s + a % 4)).toNatClampNeg = 4 * s + a % 4 := nI_clamp (by omega)
  refine ⟨i4, ?_⟩
  rw [cs, hfa]
  refine nm_e ⟨by decide, ?_⟩
  rw [er, e4, c4, hv]
  refine ⟨vp_in_nI (by omega) (by omega), nm_e (xk_isControl hs hb0 hfh (fun k => br_t rfl ⟨i4, ?_⟩) (fun k => br_f (by decide) ?_))⟩
  · have hz' := hz k
    have e2 : nI s * 200 + nI z = nI (200 * s + z) := by rw [bn_mul, nI_add, Nat.mul_comm]
    have c2 : (nI (200 * s + z)).toNatClampNeg = 200 * s + z := nI_clamp (by omega)
    rw [hml, e2, c2, nI_1 z]
    refine ⟨vp_in_nI (by omega) (by omega), nm_e ⟨i4, i4, nm_e ⟨i4, ?_⟩⟩⟩
    rw [cs, nI_1 a]
    refine nm_e ⟨i4, ?_⟩
    rw [hfl]
    exact pk_eq (a + 1) n (fun e => hm1 k e) (fun e => hm0 k e)
  · have hn' := hn16 k
    have e2 : nI s * 16 + nI a = nI (16 * s + a) := by rw [bn_mul, nI_add, Nat.mul_comm]
    have c2 : (nI (16 * s + a)).toNatClampNeg = 16 * s + a := nI_clamp (by omega)
    rw [e2, c2]
    refine ⟨vp_in_nI (by omega) (by omega), nm_e ⟨i4, ?_⟩⟩
    rw [cs, nI_1 a]
    refine nm_e ⟨i4, ?_⟩
    rw [hfl]
    exact pk_eq (a + 1) n (fun e => hc1 k e) (fun e => hc0 k e)
theorem yk_data {post : SY → Prop} {s b o a z v : Nat} (hs : s < 4) (hyp : yp s = 8) (ho : ki s = nI o) (ho2 : o < 2 ∨ (8 ≤ o ∧ o ≤ 10)) (ha : a < 200) (ha16 : 8 ≤ o → a < 16) (hgo : go s = nI a) (hml : ml s = nI z) (hz : o < 8 → z < 200) (hv : nI b ^^^ mk (4 * s + a % 4) = nI v)
    (hc : 8 ≤ o → wY_look_312 post (nI s) fr en ma wr st lf cd ta bg kc ob ol pb pn yp ki le (upd go s (nI (a + 1))) mk (upd cb (16 * s + a) (nI v)) mb ml la ps pd pt kw kh kf kz ky th pl md cr gc lc lr wh od tg tr so bd wo be) (hm : o < 8 → wY_look_312 post (nI s) fr en ma wr st lf cd ta bg kc ob ol pb pn yp ki le (upd go s (nI (a + 1))) mk cb (upd mb (200 * s + z) (nI v)) (upd ml s (nI (z + 1))) la ps pd pt kw kh kf kz ky th pl md cr gc lc lr wh od tg tr so bd wo be) : wpY_look post (fr, en, ma, wr, st, lf, cd, ta, bg, kc, ob, ol, pb, pn, yp, ki, le, go, mk, cb, mb, ml, la, ps, pd, pt, kw, kh, kf, kz, ky, th, pl, md, cr, gc, lc, lr, wh, od, tg, tr, so, bd, wo, be) (nI s) (nI b) := by
  have cs : (nI s).toNatClampNeg = s := nI_clamp (by omega)
  have i4 : vp_in (nI s) 4 := pk_in s 4 hs
  have er : nI a - nI a / 4 * 4 = nI (a % 4) := pk_rem (a := a) (d := 4) (by omega) (by decide) (by decide)
  have e4 : 4 * nI s + nI (a % 4) = nI (4 * s + a % 4) := by rw [bn_mul2, nI_add]
  have c4 : (nI (4 * s + a % 4)).toNatClampNeg = 4 * s + a % 4 := nI_clamp (by omega)
  refine ⟨i4, ?_⟩
  rw [cs, hyp]
  refine nm_e (br_f (by decide) (br_f (by decide) (br_f (by decide) (br_f (by decide) (br_f (by decide) (br_f (by decide) (br_f (by decide) (br_f (by decide) (br_f (by decide) (br_f (by decide) (br_t rfl ⟨i4, by decide, ?_⟩)))))))))))
  rw [hgo, er, e4, c4, hv, ho]
  refine ⟨vp_in_nI (by omega) (by omega), nm_e ⟨i4, pk_le o 1 (fun k => ⟨i4, ?_⟩) (fun k => ⟨i4, ?_⟩)⟩⟩
  · have hz' := hz (by omega)
    have e2 : 200 * nI s + nI z = nI (200 * s + z) := by rw [bn_mul2, nI_add]
    have c2 : (nI (200 * s + z)).toNatClampNeg = 200 * s + z := nI_clamp (by omega)
    rw [hml, e2, c2, nI_1 z]
    refine ⟨vp_in_nI (by omega) (by omega), nm_e ⟨i4, i4, nm_e ⟨i4, ?_⟩⟩⟩
    rw [cs, hgo, nI_1 a]
    exact ⟨i4, nm_e (hm (by omega))⟩
  · have ha' := ha16 (by omega)
    have e2 : 16 * nI s + nI a = nI (16 * s + a) := by rw [bn_mul2, nI_add]
    have c2 : (nI (16 * s + a)).toNatClampNeg = 16 * s + a := nI_clamp (by omega)
    rw [e2, c2]
    refine ⟨vp_in_nI (by omega) (by omega), nm_e ⟨i4, ?_⟩⟩
    rw [cs, hgo, nI_1 a]
    exact ⟨i4, nm_e (hc (by omega))⟩
theorem lk_look4 (h : bk_S0 B A g st ol th pl md cr lr gv ib il it qi qc ta wh od tg tr so bd fr en hc hg hi kc kb kl kw kh kf kz ky mk cb mb pb pn bg be) {s b z b0 : Nat} (hs : s < 4) (hF : ∀ q, q < 4 → q ≠ s → bk_F ml xp fh fl fa mi yp ki le go la ps pd pt q) (hst : st s = 1) (hb : b < 256) (hz : z ≤ 200) (hml : ml s = nI z) (hb0 : b0 < 256) (hfh : fh s = nI b0) (hki : ki s = nI (b0 % 16)) (hla : la s = (if b0 < 128 then 0 else 1)) (hps : ps s = (if b0 / 64 % 2 = 0 then 0 else 1)) (hk : (b0 % 16 = 1 ∧ pt s = 0 ∧ mi s = (if b0 / 64 % 2 = 0 then 1 else 2)) ∨ (b0 % 16 = 0 ∧ pt s = 1 ∧ bk_Mi mi pt pd s) ∨ (8 ≤ b0 % 16 ∧ b0 % 16 ≤ 10 ∧ 128 ≤ b0 ∧ bk_Mi mi pt pd s)) (hB : B + 132 ≤ 100000000) {n a : Nat} (hxp : xp s = 4) (hyp : yp s = 8) (han : a < n) (hn : 8 ≤ b0 % 16 → n ≤ 16) (hfl : fl s = nI n) (hle : le s = nI n) (hzn : b0 % 16 < 8 → z + (n - a) ≤ 200) (hn200 : n ≤ 200) (hfa : fa s = nI a) (hgo : go s = nI a) :
    ∃ (A' : Nat → List bk_E) (g' : Nat → Nat) (px' : Int32) (st' : Nat → Int32) (lf' : Nat → Int32) (cd' : Nat → Int32) (bg' : Nat → Int32) (gv' : Nat → Int32) (ob' : Nat → Int32) (ol' : Nat → Int32) (pb' : Nat → Int32) (pn' : Nat → Int32) (xp' : Nat → Int32) (fh' : Nat → Int32) (fl' : Nat → Int32) (fa' : Nat → Int32) (mk' : Nat → Int32) (cb' : Nat → Int32) (mi' : Nat → Int32) (mb' : Nat → Int32) (ml' : Nat → Int32) (pa' : Nat → Int32) (kb' : Nat → Int32) (kl' : Nat → Int32) (kc' : Nat → Int32) (th' : Nat → Int32) (pl' : Nat → Int32) (md' : Nat → Int32) (cr' : Nat → Int32) (hc' : Nat → Int32) (hg' : Nat → Int32) (hi' : Nat → Int32) (ib' : Nat → Int32) (il' : Nat → Int32) (it' : Nat → Int32) (qi' : Nat → Int32) (qc' : Nat → Int32) (gc' : Nat → Int32) (lc' : Nat → Int32) (lr' : Nat → Int32) (co' : Nat → Int32) (fr' : Int32) (en' : Int32) (ma' : Int32) (wr' : Int32) (ta' : Nat → Int32) (yp' : Nat → Int32) (ki' : Nat → Int32) (le' : Nat → Int32) (go' : Nat → Int32) (la' : Nat → Int32) (ps' : Nat → Int32) (pd' : Nat → Int32) (pt' : Nat → Int32) (kw' : Nat → Int32) (kh' : Nat → Int32) (kf' : Nat → Int32) (kz' : Nat → Int32) (ky' : Nat → Int32) (wh' : Nat → Int32) (od' : Nat → Int32) (tg' : Nat → Int32) (tr' : Nat → Int32) (so' : Nat → Int32) (bd' : Nat → Int32) (wo' : Nat → Int32) (be' : Nat → Int32), bk_S (B + 132) A' g' st' ol' th' pl' md' cr' lr' gv' ib' il' it' qi' qc' ta' wh' od' tg' tr' so' bd' fr' en' hc' hg' hi' kc' kb' kl' kw' kh' kf' kz' ky' mk' cb' mb' pb' pn' bg' be' ml' xp' fh' fl' fa' mi' yp' ki' le' go' la' ps' pd' pt' ∧
      (∀ (post : Int32 → SX → Prop) (J39 : Int32 → Int32 → Int32 → (Nat → Int32) → (Nat → Int32) → (Nat → Int32) → (Nat → Int32) → (Nat → Int32) → (Nat → Int32) → (Nat → Int32) → (Nat → Int32) → (Nat → Int32) → (Nat → Int32) → (Nat → Int32) → (Nat → Int32) → (Nat → Int32) → (Nat → Int32) → (Nat → Int32) → (Nat → Int32) → (Nat → Int32) → (Nat → Int32) → (Nat → Int32) → (Nat → Int32) → (Nat → Int32) → (Nat → Int32) → (Nat → Int32) → (Nat → Int32) → (Nat → Int32) → (Nat → Int32) → (Nat → Int32) → (Nat → Int32) → (Nat → Int32) → (Nat → Int32) → (Nat → Int32) → (Nat → Int32) → (Nat → Int32) → (Nat → Int32) → (Nat → Int32) → (Nat → Int32) → (Nat → Int32) → (Nat → Int32) → Prop) (x2 : Int64) (x4 x5 x6 : Int32), wX_feed_135 post J39 (nI s) x2 x4 x5 x6 px' st' lf' cd' bg' gv' ob' ol' pb' pn' xp' fh' fl' fa' mk' cb' mi' mb' ml' pa' kb' kl' kc' th' pl' md' cr' hc' hg' hi' ib' il' it' qi' qc' gc' lc' lr' co' → wpX_readByte (fun r u => match u with | (px, st, lf, cd, bg, gv, ob, ol, pb, pn, xp, fh, fl, fa, mk, cb, mi, mb, ml, pa, kb, kl, kc, th, pl, md, cr, hc, hg, hi, ib, il, it, qi, qc, gc, lc, lr, co) => ((r = 16 → wpX_finishFrame (fun r u => match u with | (px, st, lf, cd, bg, gv, ob, ol, pb, pn, xp, fh, fl, fa, mk, cb, mi, mb, ml, pa, kb, kl, kc, th, pl, md, cr, hc, hg, hi, ib, il, it, qi, qc, gc, lc, lr, co) => wX_feed_93 post J39 (nI s) x2 x4 x5 x6 r px st lf cd bg gv ob ol pb pn xp fh fl fa mk cb mi mb ml pa kb kl kc th pl md cr hc hg hi ib il it qi qc gc lc lr co) (px, st, lf, cd, bg, gv, ob, ol, pb, pn, xp, fh, fl, fa, mk, cb, mi, mb, ml, pa, kb, kl, kc, th, pl, md, cr, hc, hg, hi, ib, il, it, qi, qc, gc, lc, lr, co) (nI s)) ∧ (¬ r = 16 → wX_feed_93 post J39 (nI s) x2 x4 x5 x6 r px st lf cd bg gv ob ol pb pn xp fh fl fa mk cb mi mb ml pa kb kl kc th pl md cr hc hg hi ib il it qi qc gc lc lr co))) (px, st, lf, cd, bg, gv, ob, ol, pb, pn, xp, fh, fl, fa, mk, cb, mi, mb, ml, pa, kb, kl, kc, th, pl, md, cr, hc, hg, hi, ib, il, it, qi, qc, gc, lc, lr, co) (nI s) (nI b)) ∧
      (∀ (post : SY → Prop), post (fr', en', ma', wr', st', lf', cd', ta', bg', kc', ob', ol', pb', pn', yp', ki', le', go', mk', cb', mb', ml', la', ps', pd', pt', kw', kh', kf', kz', ky', th', pl', md', cr', gc', lc', lr', wh', od', tg', tr', so', bd', wo', be') → wpY_look post (fr, en, ma, wr, st, lf, cd, ta, bg, kc, ob, ol, pb, pn, yp, ki, le, go, mk, cb, mb, ml, la, ps, pd, pt, kw, kh, kf, kz, ky, th, pl, md, cr, gc, lc, lr, wh, od, tg, tr, so, bd, wo, be) (nI s) (nI b)) := by
  have cs : (nI s).toNatClampNeg = s := nI_clamp (by omega)
  have i4 : vp_in (nI s) 4 := pk_in s 4 hs
  have ho2 : b0 % 16 < 2 ∨ (8 ≤ b0 % 16 ∧ b0 % 16 ≤ 10) := by
    rcases hk with k | k | k <;> omega
  obtain ⟨w, hw, ew⟩ := h.2.2.2.1.1 (4 * s + a % 4)
  have hv : nI b ^^^ mk (4 * s + a % 4) = nI (b ^^^ w) := by rw [ew, nx_xor]
  have hv2 : b ^^^ w < 256 := bn_xor hb hw
  generalize b ^^^ w = v at hv hv2
  have xr : ∀ (post : Int32 → SX → Prop), wpX_readData (fun r u => match u with | (px, st, lf, cd, bg, gv, ob, ol, pb, pn, xp, fh, fl, fa, mk, cb, mi, mb, ml, pa, kb, kl, kc, th, pl, md, cr, hc, hg, hi, ib, il, it, qi, qc, gc, lc, lr, co) => post r (px, st, lf, cd, bg, gv, ob, ol, pb, pn, xp, fh, fl, fa, mk, cb, mi, mb, ml, pa, kb, kl, kc, th, pl, md, cr, hc, hg, hi, ib, il, it, qi, qc, gc, lc, lr, co)) (px, st, lf, cd, bg, gv, ob, ol, pb, pn, xp, fh, fl, fa, mk, cb, mi, mb, ml, pa, kb, kl, kc, th, pl, md, cr, hc, hg, hi, ib, il, it, qi, qc, gc, lc, lr, co) (nI s) (nI b) → wpX_readByte post (px, st, lf, cd, bg, gv, ob, ol, pb, pn, xp, fh, fl, fa, mk, cb, mi, mb, ml, pa, kb, kl, kc, th, pl, md, cr, hc, hg, hi, ib, il, it, qi, qc, gc, lc, lr, co) (nI s) (nI b) := by
    intro post hp
    refine ⟨i4, ?_⟩
    rw [cs, hxp]
    exact nm_e (br_f (by decide) (br_t (by decide) hp))
  by_cases ctl : 8 ≤ b0 % 16
  · have hn16 := hn ctl
    have hS0 : bk_S0 B A g st ol th pl md cr lr gv ib il it qi qc ta wh od tg tr so bd fr en hc hg hi kc kb kl kw kh kf kz ky mk (upd cb (16 * s + a) (nI v)) mb pb pn bg be := ⟨h.1, h.2.1, h.2.2.1, ⟨h.2.2.2.1.1, bk_Byu h.2.2.2.1.2.1 hv2, h.2.2.2.1.2.2⟩, h.2.2.2.2⟩
    have hF' : ∀ q, q < 4 → q ≠ s → bk_F ml xp fh fl (upd fa s (nI (a + 1))) mi yp ki le (upd go s (nI (a + 1))) la ps pd pt q := fun q hq e => bk_F_of (hF q hq e) rfl rfl rfl rfl (pk_un e) rfl rfl rfl rfl (pk_un e) rfl rfl rfl rfl
    by_cases last : a + 1 = n
    · obtain ⟨A', g', px', st', lf', cd', bg', gv', ob', ol', pb', pn', xp', fh', fl', fa', mk', cb', mi', mb', ml', pa', kb', kl', kc', th', pl', md', cr', hc', hg', hi', ib', il', it', qi', qc', gc', lc', lr', co', fr', en', ma', wr', ta', yp', ki', le', go', la', ps', pd', pt', kw', kh', kf', kz', ky', wh', od', tg', tr', so', bd', wo', be', hS, x1, y1⟩ := lk_done (px := px) (st := st) (lf := lf) (cd := cd) (bg := bg) (gv := gv) (ob := ob) (ol := ol) (pb := pb) (pn := pn) (xp := xp) (fh := fh) (fl := fl) (mk := mk) (mi := mi) (mb := mb) (ml := ml) (pa := pa) (kb := kb) (kl := kl) (kc := kc) (th := th) (pl := pl) (md := md) (cr := cr) (hc := hc) (hg := hg) (hi := hi) (ib := ib) (il := il) (it := it) (qi := qi) (qc := qc) (gc := gc) (lc := lc) (lr := lr) (co := co) (fr := fr) (en := en) (ma := ma) (wr := wr) (ta := ta) (yp := yp) (ki := ki) (le := le) (la := la) (ps := ps) (pd := pd) (pt := pt) (kw := kw) (kh := kh) (kf := kf) (kz := kz) (ky := ky) (wh := wh) (od := od) (tg := tg) (tr := tr) (so := so) (bd := bd) (wo := wo) (be := be) (cb := upd cb (16 * s + a) (nI v)) (fa := upd fa s (nI (a + 1))) (go := upd go s (nI (a + 1))) hS0 hs hF' hst hz hml hb0 hfh hki hla hps hk hn hfl hle hB
      refine ⟨A', g', px', st', lf', cd', bg', gv', ob', ol', pb', pn', xp', fh', fl', fa', mk', cb', mi', mb', ml', pa', kb', kl', kc', th', pl', md', cr', hc', hg', hi', ib', il', it', qi', qc', gc', lc', lr', co', fr', en', ma', wr', ta', yp', ki', le', go', la', ps', pd', pt', kw', kh', kf', kz', ky', wh', od', tg', tr', so', bd', wo', be', hS, ?_, ?_⟩
      · intro post J39 x2 x4 x5 x6 hp
        exact xr _ (xk_readData hs hb0 hfh han hn200 hn hfa hfl hml (fun q => by omega) hv (fun _ _ => br_t rfl (x1 post J39 x2 x4 x5 x6 hp)) (fun _ q => absurd last q) (fun q => by omega) (fun q => by omega))
      · intro post hp
        exact yk_data hs hyp hki ho2 (by omega) (fun _ => by omega) hgo hml (fun q => by omega) hv (fun _ => yk_312d hs hyp (by rw [pk_us, hle, last]) (y1 _ hp)) (fun q => by omega)
    · refine ⟨A, g, px, st, lf, cd, bg, gv, ob, ol, pb, pn, xp, fh, fl, upd fa s (nI (a + 1)), mk, upd cb (16 * s + a) (nI v), mi, mb, ml, pa, kb, kl, kc, th, pl, md, cr, hc, hg, hi, ib, il, it, qi, qc, gc, lc, lr, co, fr, en, ma, wr, ta, yp, ki, le, upd go s (nI (a + 1)), la, ps, pd, pt, kw, kh, kf, kz, ky, wh, od, tg, tr, so, bd, wo, be, ⟨⟨dk_mono hS0.1 (by omega), hS0.2⟩, fun q hq => ?_⟩, ?_, ?_⟩
      · by_cases e : q = s
        · subst e
          exact ⟨z, hz, hml, Or.inr ⟨b0, b0 % 16, hb0, rfl, hfh, hki, hla, hps, hk, Or.inr (Or.inr ⟨n, hn200, hn, hfl, hle, Or.inr ⟨hxp, hyp, a + 1, by omega, pk_us, pk_us, fun q => by omega⟩⟩)⟩⟩
        · exact hF' q hq e
      · intro post J39 x2 x4 x5 x6 hp
        exact xr _ (xk_readData hs hb0 hfh han hn200 hn hfa hfl hml (fun q => by omega) hv (fun _ q => absurd q last) (fun _ _ => br_f (by decide) (br_f (by decide) (br_f (by decide) (br_t rfl hp)))) (fun q => by omega) (fun q => by omega))
      · intro post hp
        exact yk_data hs hyp hki ho2 (by omega) (fun _ => by omega) hgo hml (fun q => by omega) hv (fun _ => yk_312 hs (Or.inr (by rw [pk_us, hle]; exact fun q => last ((nI_eq (by omega) (by omega)).mp q))) hp) (fun q => by omega)
  · have hzn' := hzn (by omega)
    have hS0 : bk_S0 B A g st ol th pl md cr lr gv ib il it qi qc ta wh od tg tr so bd fr en hc hg hi kc kb kl kw kh kf kz ky mk cb (upd mb (200 * s + z) (nI v)) pb pn bg be := ⟨h.1, h.2.1, h.2.2.1, ⟨h.2.2.2.1.1, h.2.2.2.1.2.1, bk_Byu h.2.2.2.1.2.2.1 hv2, h.2.2.2.1.2.2.2⟩, h.2.2.2.2⟩
    have hF' : ∀ q, q < 4 → q ≠ s → bk_F (upd ml s (nI (z + 1))) xp fh fl (upd fa s (nI (a + 1))) mi yp ki le (upd go s (nI (a + 1))) la ps pd pt q := fun q hq e => bk_F_of (hF q hq e) (pk_un e) rfl rfl rfl (pk_un e) rfl rfl rfl rfl (pk_un e) rfl rfl rfl rfl
    by_cases last : a + 1 = n
    · obtain ⟨A', g', px', st', lf', cd', bg', gv', ob', ol', pb', pn', xp', fh', fl', fa', mk', cb', mi', mb', ml', pa', kb', kl', kc', th', pl', md', cr', hc', hg', hi', ib', il', it', qi', qc', gc', lc', lr', co', fr', en', ma', wr', ta', yp', ki', le', go', la', ps', pd', pt', kw', kh', kf', kz', ky', wh', od', tg', tr', so', bd', wo', be', hS, x1, y1⟩ := lk_done (px := px) (st := st) (lf := lf) (cd := cd) (bg := bg) (gv := gv) (ob := ob) (ol := ol) (pb := pb) (pn := pn) (xp := xp) (fh := fh) (fl := fl) (mk := mk) (cb := cb) (mi := mi) (pa := pa) (kb := kb) (kl := kl) (kc := kc) (th := th) (pl := pl) (md := md) (cr := cr) (hc := hc) (hg := hg) (hi := hi) (ib := ib) (il := il) (it := it) (qi := qi) (qc := qc) (gc := gc) (lc := lc) (lr := lr) (co := co) (fr := fr) (en := en) (ma := ma) (wr := wr) (ta := ta) (yp := yp) (ki := ki) (le := le) (la := la) (ps := ps) (pd := pd) (pt := pt) (kw := kw) (kh := kh) (kf := kf) (kz := kz) (ky := ky) (wh := wh) (od := od) (tg := tg) (tr := tr) (so := so) (bd := bd) (wo := wo) (be := be) (mb := upd mb (200 * s + z) (nI v)) (ml := upd ml s (nI (z + 1))) (fa := upd fa s (nI (a + 1))) (go := upd go s (nI (a + 1))) (z := z + 1) hS0 hs hF' hst (by omega) pk_us hb0 hfh hki hla hps hk hn hfl hle hB
      refine ⟨A', g', px', st', lf', cd', bg', gv', ob', ol', pb', pn', xp', fh', fl', fa', mk', cb', mi', mb', ml', pa', kb', kl', kc', th', pl', md', cr', hc', hg', hi', ib', il', it', qi', qc', gc', lc', lr', co', fr', en', ma', wr', ta', yp', ki', le', go', la', ps', pd', pt', kw', kh', kf', kz', ky', wh', od', tg', tr', so', bd', wo', be', hS, ?_, ?_⟩
      · intro post J39 x2 x4 x5 x6 hp
        exact xr _ (xk_readData hs hb0 hfh han hn200 hn hfa hfl hml (fun q => by omega) hv (fun q => absurd q ctl) (fun q => absurd q ctl) (fun _ _ => br_t rfl (x1 post J39 x2 x4 x5 x6 hp)) (fun _ q => absurd last q))
      · intro post hp
        exact yk_data hs hyp hki ho2 (by omega) (fun q => absurd q ctl) hgo hml (fun q => by omega) hv (fun q => absurd q ctl) (fun _ => yk_312d hs hyp (by rw [pk_us, hle, last]) (y1 _ hp))
    · refine ⟨A, g, px, st, lf, cd, bg, gv, ob, ol, pb, pn, xp, fh, fl, upd fa s (nI (a + 1)), mk, cb, mi, upd mb (200 * s + z) (nI v), upd ml s (nI (z + 1)), pa, kb, kl, kc, th, pl, md, cr, hc, hg, hi, ib, il, it, qi, qc, gc, lc, lr, co, fr, en, ma, wr, ta, yp, ki, le, upd go s (nI (a + 1)), la, ps, pd, pt, kw, kh, kf, kz, ky, wh, od, tg, tr, so, bd, wo, be, ⟨⟨dk_mono hS0.1 (by omega), hS0.2⟩, fun q hq => ?_⟩, ?_, ?_⟩
      · by_cases e : q = s
        · subst e
          exact ⟨z + 1, by omega, pk_us, Or.inr ⟨b0, b0 % 16, hb0, rfl, hfh, hki, hla, hps, hk, Or.inr (Or.inr ⟨n, hn200, hn, hfl, hle, Or.inr ⟨hxp, hyp, a + 1, by omega, pk_us, pk_us, fun q => by omega⟩⟩)⟩⟩
        · exact hF' q hq e
      · intro post J39 x2 x4 x5 x6 hp
        exact xr _ (xk_readData hs hb0 hfh han hn200 hn hfa hfl hml (fun q => by omega) hv (fun q => absurd q ctl) (fun q => absurd q ctl) (fun _ q => absurd q last) (fun _ _ => br_f (by decide) (br_f (by decide) (br_f (by decide) (br_t rfl hp)))))
      · intro post hp
        exact yk_data hs hyp hki ho2 (by omega) (fun q => absurd q ctl) hgo hml (fun q => by omega) hv (fun q => absurd q ctl) (fun _ => yk_312 hs (Or.inr (by rw [pk_us, hle]; exact fun q => last ((nI_eq (by omega) (by omega)).mp q))) hp)
end LK4
end
section
/-! bytes of a long -/
theorem bl_c : ∀ k, k < 64 → ((nI k).toInt64 &&& 63) = lN k := by decide +kernel
theorem bl_cu : ∀ k, k < 64 → ((nI k).toInt64.toUInt64 &&& Int64.toUInt64 63) = UInt64.ofNat k := by decide +kernel
theorem bl_sm : ∀ k, k < 64 → (BitVec.ofNat 64 k).smod 64 = BitVec.ofNat 64 k := by decide +kernel
theorem bl_255 : ∀ j, j < 32 → (255 : Int32).toBitVec.getLsbD j = decide (j < 8) := by decide +kernel
theorem bl_mod : ∀ k, k < 64 → ((UInt64.ofNat k).toBitVec % 64#64).toNat = k := by decide +kernel
theorem bl_eq (x : Int64) (k : Nat) (hk : k ≤ 56) : ((x.toUInt64 >>> UInt64.ofNat k).toInt64.toInt32 &&& 255) = ((x >>> lN k).toInt32 &&& 255) := by
  apply Int32.toBitVec_inj.mp
  apply BitVec.eq_of_getLsbD_eq
  intro j hj
  rw [Int32.toBitVec_and, Int32.toBitVec_and, BitVec.getLsbD_and, BitVec.getLsbD_and, bl_255 j hj]
  by_cases h8 : j < 8
  · have l1 : (x.toUInt64 >>> UInt64.ofNat k).toInt64.toInt32.toBitVec.getLsbD j = x.toBitVec.getLsbD (k + j) := by
      rw [Int64.toBitVec_toInt32, BitVec.getLsbD_signExtend]
      have : (x.toUInt64 >>> UInt64.ofNat k).toInt64.toBitVec = x.toBitVec >>> ((UInt64.ofNat k).toBitVec % 64#64) := rfl
      rw [this, BitVec.ushiftRight_eq', bl_mod k (by omega), BitVec.getLsbD_ushiftRight]
      simp [show j < 32 by omega, show j < 64 by omega]
    have l2 : (x >>> lN k).toInt32.toBitVec.getLsbD j = x.toBitVec.getLsbD (k + j) := by
      rw [Int64.toBitVec_toInt32, BitVec.getLsbD_signExtend, Int64.toBitVec_shiftRight]
      have e : (lN k).toBitVec = BitVec.ofNat 64 k := rfl
      have e2 : (BitVec.ofNat 64 k).toNat = k := by rw [BitVec.toNat_ofNat]; omega
      rw [e]
      have e3 := bl_sm k (by omega)
      rw [e3, show ∀ (x y : BitVec 64), x.sshiftRight' y = x.sshiftRight y.toNat from fun _ _ => rfl, e2, BitVec.getLsbD_sshiftRight]
      simp [show j < 32 by omega, show j < 64 by omega, show ¬ 64 ≤ j by omega, show k + j < 64 by omega]
    rw [l1, l2]
  · simp [h8]
theorem bl_byte (x : Int64) (i : Nat) (hi : i < 8) : ∃ b : Nat, b < 256 ∧ (((x.toUInt64 >>> ((8 * nI i).toInt64.toUInt64 &&& Int64.toUInt64 63)).toInt64).toInt32) &&& 255 = nI b ∧ ((x >>> ((8 * nI i).toInt64 &&& 63)).toInt32) &&& 255 = nI b := by
  have e8 : 8 * nI i = nI (8 * i) := bn_mul2 i 8
  rw [e8, bl_cu (8 * i) (by omega), bl_c (8 * i) (by omega), bl_eq x (8 * i) (by omega)]
  obtain ⟨j, hj, e⟩ := pk_andE ((x >>> lN (8 * i)).toInt32) (m := 255) 8 (by decide)
  exact ⟨j, hj, e, e⟩
section FEED
variable {B : Nat} {A : Nat → List bk_E} {g : Nat → Nat} {st lf cd bg gv ob ol pb pn xp fh fl fa mk cb mi mb ml pa kb kl kc th pl md cr hc hg hi ib il it qi qc gc lc lr co ta yp ki le go la ps pd pt kw kh kf kz ky wh od tg tr so bd wo be : Nat → Int32} {px fr en ma wr : Int32}
theorem lk_look (h : bk_S B A g st ol th pl md cr lr gv ib il it qi qc ta wh od tg tr so bd fr en hc hg hi kc kb kl kw kh kf kz ky mk cb mb pb pn bg be ml xp fh fl fa mi yp ki le go la ps pd pt) {s b : Nat} (hs : s < 4) (hst : st s = 1) (hb : b < 256) (hB : B + 132 ≤ 100000000) :
    ∃ (A' : Nat → List bk_E) (g' : Nat → Nat) (px' : Int32) (st' : Nat → Int32) (lf' : Nat → Int32) (cd' : Nat → Int32) (bg' : Nat → Int32) (gv' : Nat → Int32) (ob' : Nat → Int32) (ol' : Nat → Int32) (pb' : Nat → Int32) (pn' : Nat → Int32) (xp' : Nat → Int32) (fh' : Nat → Int32) (fl' : Nat → Int32) (fa' : Nat → Int32) (mk' : Nat → Int32) (cb' : Nat → Int32) (mi' : Nat → Int32) (mb' : Nat → Int32) (ml' : Nat → Int32) (pa' : Nat → Int32) (kb' : Nat → Int32) (kl' : Nat → Int32) (kc' : Nat → Int32) (th' : Nat → Int32) (pl' : Nat → Int32) (md' : Nat → Int32) (cr' : Nat → Int32) (hc' : Nat → Int32) (hg' : Nat → Int32) (hi' : Nat → Int32) (ib' : Nat → Int32) (il' : Nat → Int32) (it' : Nat → Int32) (qi' : Nat → Int32) (qc' : Nat → Int32) (gc' : Nat → Int32) (lc' : Nat → Int32) (lr' : Nat → Int32) (co' : Nat → Int32) (fr' : Int32) (en' : Int32) (ma' : Int32) (wr' : Int32) (ta' : Nat → Int32) (yp' : Nat → Int32) (ki' : Nat → Int32) (le' : Nat → Int32) (go' : Nat → Int32) (la' : Nat → Int32) (ps' : Nat → Int32) (pd' : Nat → Int32) (pt' : Nat → Int32) (kw' : Nat → Int32) (kh' : Nat → Int32) (kf' : Nat → Int32) (kz' : Nat → Int32) (ky' : Nat → Int32) (wh' : Nat → Int32) (od' : Nat → Int32) (tg' : Nat → Int32) (tr' : Nat → Int32) (so' : Nat → Int32) (bd' : Nat → Int32) (wo' : Nat → Int32) (be' : Nat → Int32), bk_S (B + 132) A' g' st' ol' th' pl' md' cr' lr' gv' ib' il' it' qi' qc' ta' wh' od' tg' tr' so' bd' fr' en' hc' hg' hi' kc' kb' kl' kw' kh' kf' kz' ky' mk' cb' mb' pb' pn' bg' be' ml' xp' fh' fl' fa' mi' yp' ki' le' go' la' ps' pd' pt' ∧
      (∀ (post : Int32 → SX → Prop) (J39 : Int32 → Int32 → Int32 → (Nat → Int32) → (Nat → Int32) → (Nat → Int32) → (Nat → Int32) → (Nat → Int32) → (Nat → Int32) → (Nat → Int32) → (Nat → Int32) → (Nat → Int32) → (Nat → Int32) → (Nat → Int32) → (Nat → Int32) → (Nat → Int32) → (Nat → Int32) → (Nat → Int32) → (Nat → Int32) → (Nat → Int32) → (Nat → Int32) → (Nat → Int32) → (Nat → Int32) → (Nat → Int32) → (Nat → Int32) → (Nat → Int32) → (Nat → Int32) → (Nat → Int32) → (Nat → Int32) → (Nat → Int32) → (Nat → Int32) → (Nat → Int32) → (Nat → Int32) → (Nat → Int32) → (Nat → Int32) → (Nat → Int32) → (Nat → Int32) → (Nat → Int32) → (Nat → Int32) → (Nat → Int32) → (Nat → Int32) → Prop) (x2 : Int64) (x4 x5 x6 : Int32), wX_feed_135 post J39 (nI s) x2 x4 x5 x6 px' st' lf' cd' bg' gv' ob' ol' pb' pn' xp' fh' fl' fa' mk' cb' mi' mb' ml' pa' kb' kl' kc' th' pl' md' cr' hc' hg' hi' ib' il' it' qi' qc' gc' lc' lr' co' → wpX_readByte (fun r u => match u with | (px, st, lf, cd, bg, gv, ob, ol, pb, pn, xp, fh, fl, fa, mk, cb, mi, mb, ml, pa, kb, kl, kc, th, pl, md, cr, hc, hg, hi, ib, il, it, qi, qc, gc, lc, lr, co) => ((r = 16 → wpX_finishFrame (fun r u => match u with | (px, st, lf, cd, bg, gv, ob, ol, pb, pn, xp, fh, fl, fa, mk, cb, mi, mb, ml, pa, kb, kl, kc, th, pl, md, cr, hc, hg, hi, ib, il, it, qi, qc, gc, lc, lr, co) => wX_feed_93 post J39 (nI s) x2 x4 x5 x6 r px st lf cd bg gv ob ol pb pn xp fh fl fa mk cb mi mb ml pa kb kl kc th pl md cr hc hg hi ib il it qi qc gc lc lr co) (px, st, lf, cd, bg, gv, ob, ol, pb, pn, xp, fh, fl, fa, mk, cb, mi, mb, ml, pa, kb, kl, kc, th, pl, md, cr, hc, hg, hi, ib, il, it, qi, qc, gc, lc, lr, co) (nI s)) ∧ (¬ r = 16 → wX_feed_93 post J39 (nI s) x2 x4 x5 x6 r px st lf cd bg gv ob ol pb pn xp fh fl fa mk cb mi mb ml pa kb kl kc th pl md cr hc hg hi ib il it qi qc gc lc lr co))) (px, st, lf, cd, bg, gv, ob, ol, pb, pn, xp, fh, fl, fa, mk, cb, mi, mb, ml, pa, kb, kl, kc, th, pl, md, cr, hc, hg, hi, ib, il, it, qi, qc, gc, lc, lr, co) (nI s) (nI b)) ∧
      (∀ (post : SY → Prop), post (fr', en', ma', wr', st', lf', cd', ta', bg', kc', ob', ol', pb', pn', yp', ki', le', go', mk', cb', mb', ml', la', ps', pd', pt', kw', kh', kf', kz', ky', th', pl', md', cr', gc', lc', lr', wh', od', tg', tr', so', bd', wo', be') → wpY_look post (fr, en, ma, wr, st, lf, cd, ta, bg, kc, ob, ol, pb, pn, yp, ki, le, go, mk, cb, mb, ml, la, ps, pd, pt, kw, kh, kf, kz, ky, th, pl, md, cr, gc, lc, lr, wh, od, tg, tr, so, bd, wo, be) (nI s) (nI b)) := by
  obtain ⟨h0, hFA⟩ := h
  obtain ⟨z, hz, hml, F1⟩ := hFA s hs
  have hF : ∀ q, q < 4 → q ≠ s → bk_F ml xp fh fl fa mi yp ki le go la ps pd pt q := fun q hq _ => hFA q hq
  rcases F1 with ⟨p1, p2, hMi⟩ | ⟨b0, o, hb0, ho, hfh, hki, hla, hps, hk, ph⟩
  · rcases id hMi with ⟨q1, q2⟩ | ⟨q1, q2, q3⟩ | ⟨q1, q2, q3⟩
    · exact lk_look0 (mm := 0) h0 hs hF hst hb hz hml p1 p2 q1 (by omega) (by rw [q2]; rfl) hMi hB
    · exact lk_look0 (mm := 1) h0 hs hF hst hb hz hml p1 p2 q1 (by omega) (by rw [q2]; rfl) hMi hB
    · exact lk_look0 (mm := 2) h0 hs hF hst hb hz hml p1 p2 q1 (by omega) (by rw [q2]; rfl) hMi hB
  · subst ho
    rcases ph with ⟨p1, p2⟩ | ⟨p1, p2, p3⟩ | ⟨n, n2, n16, hfl, hle, ⟨p1, p2, a, ha, hfa, hyp, hgo⟩ | ⟨p1, p2, a, ha, hfa, hgo, p3⟩⟩
    · exact lk_look1 h0 hs hF hst hb hz hml hb0 hfh hki hla hps hk hB p1 p2
    · exact lk_look2 h0 hs hF hst hb hz hml hb0 hfh hki hla hps hk hB p1 p2 p3
    · exact lk_look3 h0 hs hF hst hb hz hml hb0 hfh hki hla hps hk hB p1 ha n16 hfl hle p2 hfa hyp hgo
    · exact lk_look4 h0 hs hF hst hb hz hml hb0 hfh hki hla hps hk hB p1 p2 ha n16 hfl hle p3 n2 hfa hgo
end FEED
theorem lk_feed {s n : Nat} (hs : s < 4) (hn : n ≤ 8) (a1 : Int64) : ∀ (N : Nat) {B : Nat} {A : Nat → List bk_E} {g : Nat → Nat} {px : Int32} {st : Nat → Int32} {lf : Nat → Int32} {cd : Nat → Int32} {bg : Nat → Int32} {gv : Nat → Int32} {ob : Nat → Int32} {ol : Nat → Int32} {pb : Nat → Int32} {pn : Nat → Int32} {xp : Nat → Int32} {fh : Nat → Int32} {fl : Nat → Int32} {fa : Nat → Int32} {mk : Nat → Int32} {cb : Nat → Int32} {mi : Nat → Int32} {mb : Nat → Int32} {ml : Nat → Int32} {pa : Nat → Int32} {kb : Nat → Int32} {kl : Nat → Int32} {kc : Nat → Int32} {th : Nat → Int32} {pl : Nat → Int32} {md : Nat → Int32} {cr : Nat → Int32} {hc : Nat → Int32} {hg : Nat → Int32} {hi : Nat → Int32} {ib : Nat → Int32} {il : Nat → Int32} {it : Nat → Int32} {qi : Nat → Int32} {qc : Nat → Int32} {gc : Nat → Int32} {lc : Nat → Int32} {lr : Nat → Int32} {co : Nat → Int32} {fr : Int32} {en : Int32} {ma : Int32} {wr : Int32} {ta : Nat → Int32} {yp : Nat → Int32} {ki : Nat → Int32} {le : Nat → Int32} {go : Nat → Int32} {la : Nat → Int32} {ps : Nat → Int32} {pd : Nat → Int32} {pt : Nat → Int32} {kw : Nat → Int32} {kh : Nat → Int32} {kf : Nat → Int32} {kz : Nat → Int32} {ky : Nat → Int32} {wh : Nat → Int32} {od : Nat → Int32} {tg : Nat → Int32} {tr : Nat → Int32} {so : Nat → Int32} {bd : Nat → Int32} {wo : Nat → Int32} {be : Nat → Int32}, N ≤ n → bk_S B A g st ol th pl md cr lr gv ib il it qi qc ta wh od tg tr so bd fr en hc hg hi kc kb kl kw kh kf kz ky mk cb mb pb pn bg be ml xp fh fl fa mi yp ki le go la ps pd pt → B + 156 * N ≤ 100000000 →
    ∃ r : Int32, ∃ (A' : Nat → List bk_E) (g' : Nat → Nat) (px' : Int32) (st' : Nat → Int32) (lf' : Nat → Int32) (cd' : Nat → Int32) (bg' : Nat → Int32) (gv' : Nat → Int32) (ob' : Nat → Int32) (ol' : Nat → Int32) (pb' : Nat → Int32) (pn' : Nat → Int32) (xp' : Nat → Int32) (fh' : Nat → Int32) (fl' : Nat → Int32) (fa' : Nat → Int32) (mk' : Nat → Int32) (cb' : Nat → Int32) (mi' : Nat → Int32) (mb' : Nat → Int32) (ml' : Nat → Int32) (pa' : Nat → Int32) (kb' : Nat → Int32) (kl' : Nat → Int32) (kc' : Nat → Int32) (th' : Nat → Int32) (pl' : Nat → Int32) (md' : Nat → Int32) (cr' : Nat → Int32) (hc' : Nat → Int32) (hg' : Nat → Int32) (hi' : Nat → Int32) (ib' : Nat → Int32) (il' : Nat → Int32) (it' : Nat → Int32) (qi' : Nat → Int32) (qc' : Nat → Int32) (gc' : Nat → Int32) (lc' : Nat → Int32) (lr' : Nat → Int32) (co' : Nat → Int32) (fr' : Int32) (en' : Int32) (ma' : Int32) (wr' : Int32) (ta' : Nat → Int32) (yp' : Nat → Int32) (ki' : Nat → Int32) (le' : Nat → Int32) (go' : Nat → Int32) (la' : Nat → Int32) (ps' : Nat → Int32) (pd' : Nat → Int32) (pt' : Nat → Int32) (kw' : Nat → Int32) (kh' : Nat → Int32) (kf' : Nat → Int32) (kz' : Nat → Int32) (ky' : Nat → Int32) (wh' : Nat → Int32) (od' : Nat → Int32) (tg' : Nat → Int32) (tr' : Nat → Int32) (so' : Nat → Int32) (bd' : Nat → Int32) (wo' : Nat → Int32) (be' : Nat → Int32), bk_S (B + 156 * N) A' g' st' ol' th' pl' md' cr' lr' gv' ib' il' it' qi' qc' ta' wh' od' tg' tr' so' bd' fr' en' hc' hg' hi' kc' kb' kl' kw' kh' kf' kz' ky' mk' cb' mb' pb' pn' bg' be' ml' xp' fh' fl' fa' mi' yp' ki' le' go' la' ps' pd' pt' ∧
      (∀ (post : Int32 → SX → Prop) (f : Nat), N < f → post r (px', st', lf', cd', bg', gv', ob', ol', pb', pn', xp', fh', fl', fa', mk', cb', mi', mb', ml', pa', kb', kl', kc', th', pl', md', cr', hc', hg', hi', ib', il', it', qi', qc', gc', lc', lr', co') → wX_feed_39 post (nI s) a1 (nI n) f (nI (n - N)) (nI (n - N)) px st lf cd bg gv ob ol pb pn xp fh fl fa mk cb mi mb ml pa kb kl kc th pl md cr hc hg hi ib il it qi qc gc lc lr co) ∧
      (∀ (post : Int32 → SY → Prop) (f : Nat), N < f → post r (fr', en', ma', wr', st', lf', cd', ta', bg', kc', ob', ol', pb', pn', yp', ki', le', go', mk', cb', mb', ml', la', ps', pd', pt', kw', kh', kf', kz', ky', th', pl', md', cr', gc', lc', lr', wh', od', tg', tr', so', bd', wo', be') → wY_feed_35 post (nI s) a1 (nI n) f (nI (n - N)) fr en ma wr st lf cd ta bg kc ob ol pb pn yp ki le go mk cb mb ml la ps pd pt kw kh kf kz ky th pl md cr gc lc lr wh od tg tr so bd wo be) := by
  have cs : (nI s).toNatClampNeg = s := nI_clamp (by omega)
  have i4 : vp_in (nI s) 4 := pk_in s 4 hs
  intro N
  induction N with
  | zero =>
    intro B A g px st lf cd bg gv ob ol pb pn xp fh fl fa mk cb mi mb ml pa kb kl kc th pl md cr hc hg hi ib il it qi qc gc lc lr co fr en ma wr ta yp ki le go la ps pd pt kw kh kf kz ky wh od tg tr so bd wo be _ h hB
    refine ⟨nI (n - 0), A, g, px, st, lf, cd, bg, gv, ob, ol, pb, pn, xp, fh, fl, fa, mk, cb, mi, mb, ml, pa, kb, kl, kc, th, pl, md, cr, hc, hg, hi, ib, il, it, qi, qc, gc, lc, lr, co, fr, en, ma, wr, ta, yp, ki, le, go, la, ps, pd, pt, kw, kh, kf, kz, ky, wh, od, tg, tr, so, bd, wo, be, h, ?_, ?_⟩
    · intro post f hf hp
      obtain ⟨f, rfl⟩ : ∃ f', f = f' + 1 := ⟨f - 1, by omega⟩
      exact br_t (nI_le (by omega) (by omega)) hp
    · intro post f hf hp
      obtain ⟨f, rfl⟩ : ∃ f', f = f' + 1 := ⟨f - 1, by omega⟩
      exact br_t (nI_le (by omega) (by omega)) hp
  | succ N ih =>
    intro B A g px st lf cd bg gv ob ol pb pn xp fh fl fa mk cb mi mb ml pa kb kl kc th pl md cr hc hg hi ib il it qi qc gc lc lr co fr en ma wr ta yp ki le go la ps pd pt kw kh kf kz ky wh od tg tr so bd wo be hN h hB
    have nk : ¬ nI n ≤ nI (n - (N + 1)) := nI_ge (by omega) (by omega)
    have ek : n - N = n - (N + 1) + 1 := by omega
    obtain ⟨b, hb, eX, eY⟩ := bl_byte a1 (n - (N + 1)) (by omega)
    by_cases o : st s = 1
    rotate_left
    · refine ⟨nI (n - (N + 1)), A, g, px, st, lf, cd, bg, gv, ob, ol, pb, pn, xp, fh, fl, fa, mk, cb, mi, mb, ml, pa, kb, kl, kc, th, pl, md, cr, hc, hg, hi, ib, il, it, qi, qc, gc, lc, lr, co, fr, en, ma, wr, ta, yp, ki, le, go, la, ps, pd, pt, kw, kh, kf, kz, ky, wh, od, tg, tr, so, bd, wo, be, bk_S_mono h (by omega), ?_, ?_⟩
      · intro post f hf hp
        obtain ⟨f, rfl⟩ : ∃ f', f = f' + 1 := ⟨f - 1, by omega⟩
        refine br_f nk ⟨i4, ?_⟩
        rw [cs]
        exact br_f o hp
      · intro post f hf hp
        obtain ⟨f, rfl⟩ : ∃ f', f = f' + 1 := ⟨f - 1, by omega⟩
        refine br_f nk ⟨i4, ?_⟩
        rw [cs]
        exact br_f o hp
    · obtain ⟨A', g', px', st', lf', cd', bg', gv', ob', ol', pb', pn', xp', fh', fl', fa', mk', cb', mi', mb', ml', pa', kb', kl', kc', th', pl', md', cr', hc', hg', hi', ib', il', it', qi', qc', gc', lc', lr', co', fr', en', ma', wr', ta', yp', ki', le', go', la', ps', pd', pt', kw', kh', kf', kz', ky', wh', od', tg', tr', so', bd', wo', be', h1, x1, y1⟩ := lk_look (px := px) (st := st) (lf := lf) (cd := cd) (bg := bg) (gv := gv) (ob := ob) (ol := ol) (pb := pb) (pn := pn) (xp := xp) (fh := fh) (fl := fl) (fa := fa) (mk := mk) (cb := cb) (mi := mi) (mb := mb) (ml := ml) (pa := pa) (kb := kb) (kl := kl) (kc := kc) (th := th) (pl := pl) (md := md) (cr := cr) (hc := hc) (hg := hg) (hi := hi) (ib := ib) (il := il) (it := it) (qi := qi) (qc := qc) (gc := gc) (lc := lc) (lr := lr) (co := co) (fr := fr) (en := en) (ma := ma) (wr := wr) (ta := ta) (yp := yp) (ki := ki) (le := le) (go := go) (la := la) (ps := ps) (pd := pd) (pt := pt) (kw := kw) (kh := kh) (kf := kf) (kz := kz) (ky := ky) (wh := wh) (od := od) (tg := tg) (tr := tr) (so := so) (bd := bd) (wo := wo) (be := be) h hs o hb (by omega)
      obtain ⟨d, h2, _, x2, y2⟩ := lk_S_give (ob := ob') (gc := gc') (lc := lc') h1 (by omega)
      obtain ⟨r, hh⟩ := ih (B := B + 132 + 24) (lf := lf') (cd := cd') (ob := zz_ob d) (gc := zz_gc d) (lc := zz_lc d) (px := px') (pa := pa') (co := co') (wo := wo') (ma := ma') (wr := wr') (by omega) h2 (by omega)
      obtain ⟨A2, g2, px2, st2, lf2, cd2, bg2, gv2, ob2, ol2, pb2, pn2, xp2, fh2, fl2, fa2, mk2, cb2, mi2, mb2, ml2, pa2, kb2, kl2, kc2, th2, pl2, md2, cr2, hc2, hg2, hi2, ib2, il2, it2, qi2, qc2, gc2, lc2, lr2, co2, fr2, en2, ma2, wr2, ta2, yp2, ki2, le2, go2, la2, ps2, pd2, pt2, kw2, kh2, kf2, kz2, ky2, wh2, od2, tg2, tr2, so2, bd2, wo2, be2, h3, x3, y3⟩ := hh
      rw [ek] at x3 y3
      refine ⟨r, A2, g2, px2, st2, lf2, cd2, bg2, gv2, ob2, ol2, pb2, pn2, xp2, fh2, fl2, fa2, mk2, cb2, mi2, mb2, ml2, pa2, kb2, kl2, kc2, th2, pl2, md2, cr2, hc2, hg2, hi2, ib2, il2, it2, qi2, qc2, gc2, lc2, lr2, co2, fr2, en2, ma2, wr2, ta2, yp2, ki2, le2, go2, la2, ps2, pd2, pt2, kw2, kh2, kf2, kz2, ky2, wh2, od2, tg2, tr2, so2, bd2, wo2, be2, bk_S_mono h3 (by omega), ?_, ?_⟩
      · intro post f hf hp
        obtain ⟨f, rfl⟩ : ∃ f', f = f' + 1 := ⟨f - 1, by omega⟩
        refine br_f nk ⟨i4, ?_⟩
        rw [cs]
        refine br_t o (nm_r eX (x1 post (wX_feed_39 post (nI s) a1 (nI n) f) a1 (nI n) _ _ ?_))
        exact x2 _ (nm_r (nI_1 _) (nm_r (nI_1 _) (x3 post f (by omega) hp)))
      · intro post f hf hp
        obtain ⟨f, rfl⟩ : ∃ f', f = f' + 1 := ⟨f - 1, by omega⟩
        refine br_f nk ⟨i4, ?_⟩
        rw [cs]
        refine br_t o (nm_r eY (nm_r (nI_1 _) (y1 _ ?_)))
        exact y2 _ (y3 post f (by omega) hp)
end
section
/-! the relation at a turn's head; the smaller calls -/
def i_Rel (k : Nat) (u : SX) (v : SY) : Prop := ∃ (A' : Nat → List bk_E) (g' : Nat → Nat) (px' : Int32) (st' : Nat → Int32) (lf' : Nat → Int32) (cd' : Nat → Int32) (bg' : Nat → Int32) (gv' : Nat → Int32) (ob' : Nat → Int32) (ol' : Nat → Int32) (pb' : Nat → Int32) (pn' : Nat → Int32) (xp' : Nat → Int32) (fh' : Nat → Int32) (fl' : Nat → Int32) (fa' : Nat → Int32) (mk' : Nat → Int32) (cb' : Nat → Int32) (mi' : Nat → Int32) (mb' : Nat → Int32) (ml' : Nat → Int32) (pa' : Nat → Int32) (kb' : Nat → Int32) (kl' : Nat → Int32) (kc' : Nat → Int32) (th' : Nat → Int32) (pl' : Nat → Int32) (md' : Nat → Int32) (cr' : Nat → Int32) (hc' : Nat → Int32) (hg' : Nat → Int32) (hi' : Nat → Int32) (ib' : Nat → Int32) (il' : Nat → Int32) (it' : Nat → Int32) (qi' : Nat → Int32) (qc' : Nat → Int32) (gc' : Nat → Int32) (lc' : Nat → Int32) (lr' : Nat → Int32) (co' : Nat → Int32) (fr' : Int32) (en' : Int32) (ma' : Int32) (wr' : Int32) (ta' : Nat → Int32) (yp' : Nat → Int32) (ki' : Nat → Int32) (le' : Nat → Int32) (go' : Nat → Int32) (la' : Nat → Int32) (ps' : Nat → Int32) (pd' : Nat → Int32) (pt' : Nat → Int32) (kw' : Nat → Int32) (kh' : Nat → Int32) (kf' : Nat → Int32) (kz' : Nat → Int32) (ky' : Nat → Int32) (wh' : Nat → Int32) (od' : Nat → Int32) (tg' : Nat → Int32) (tr' : Nat → Int32) (so' : Nat → Int32) (bd' : Nat → Int32) (wo' : Nat → Int32) (be' : Nat → Int32), u = (px', st', lf', cd', bg', gv', ob', ol', pb', pn', xp', fh', fl', fa', mk', cb', mi', mb', ml', pa', kb', kl', kc', th', pl', md', cr', hc', hg', hi', ib', il', it', qi', qc', gc', lc', lr', co') ∧ v = (fr', en', ma', wr', st', lf', cd', ta', bg', kc', ob', ol', pb', pn', yp', ki', le', go', mk', cb', mb', ml', la', ps', pd', pt', kw', kh', kf', kz', ky', th', pl', md', cr', gc', lc', lr', wh', od', tg', tr', so', bd', wo', be') ∧ bk_S (1000 * k) A' g' st' ol' th' pl' md' cr' lr' gv' ib' il' it' qi' qc' ta' wh' od' tg' tr' so' bd' fr' en' hc' hg' hi' kc' kb' kl' kw' kh' kf' kz' ky' mk' cb' mb' pb' pn' bg' be' ml' xp' fh' fl' fa' mi' yp' ki' le' go' la' ps' pd' pt'
theorem i_up {k : Nat} {u : SX} {v : SY} (h : i_Rel k u v) : i_Rel (k + 5) u v := by
  obtain ⟨A', g', px', st', lf', cd', bg', gv', ob', ol', pb', pn', xp', fh', fl', fa', mk', cb', mi', mb', ml', pa', kb', kl', kc', th', pl', md', cr', hc', hg', hi', ib', il', it', qi', qc', gc', lc', lr', co', fr', en', ma', wr', ta', yp', ki', le', go', la', ps', pd', pt', kw', kh', kf', kz', ky', wh', od', tg', tr', so', bd', wo', be', e1, e2, h⟩ := h
  exact ⟨A', g', px', st', lf', cd', bg', gv', ob', ol', pb', pn', xp', fh', fl', fa', mk', cb', mi', mb', ml', pa', kb', kl', kc', th', pl', md', cr', hc', hg', hi', ib', il', it', qi', qc', gc', lc', lr', co', fr', en', ma', wr', ta', yp', ki', le', go', la', ps', pd', pt', kw', kh', kf', kz', ky', wh', od', tg', tr', so', bd', wo', be', e1, e2, bk_S_mono h (by omega)⟩
theorem iv_n {x : Int32} {K : Nat} (hK : K < 1000) (h : x < 1 ∨ nI K < x) : x - 1 < 0 ∨ nI K ≤ x - 1 := by
  have e : (x - 1).toInt = (x.toInt - 1).bmod (2 ^ 32) := by rw [Int32.toInt_sub]; rfl
  have lo := Int32.le_toInt x
  have hi := Int32.toInt_lt x
  rw [Int32.lt_iff_toInt_lt, Int32.lt_iff_toInt_lt, nI_toInt (by omega), show (1 : Int32).toInt = 1 from by decide] at h
  rw [Int32.lt_iff_toInt_lt, Int32.le_iff_toInt_le, nI_toInt (by omega), show (0 : Int32).toInt = 0 from by decide]
  by_cases m : x.toInt = -2147483648
  · rw [m] at e
    have : (-2147483648 - 1 : Int).bmod (2 ^ 32) = 2147483647 := by decide
    rw [this] at e
    right
    omega
  · have e2 : (x.toInt - 1).bmod (2 ^ 32) = x.toInt - 1 := Int.bmod_eq_of_le (by omega) (by omega)
    rw [e2] at e
    omega
theorem iv_x {x : Int32} {K : Nat} (hK : K < 1000) : (x < 1 ∨ nI K < x) ∨ ∃ n : Nat, 1 ≤ n ∧ n ≤ K ∧ x = nI n := by
  rcases pk_ix x (n := K + 1) (by omega) with a | a | ⟨n, hn, rfl⟩
  · left; left
    rw [Int32.lt_iff_toInt_lt, show (0 : Int32).toInt = 0 from by decide] at a
    rw [Int32.lt_iff_toInt_lt, show (1 : Int32).toInt = 1 from by decide]
    omega
  · left; right
    rw [Int32.le_iff_toInt_le, nI_toInt (by omega)] at a
    rw [Int32.lt_iff_toInt_lt, nI_toInt (by omega)]
    omega
  · by_cases z : n = 0
    · subst z; left; left; decide
    · right; exact ⟨n, by omega, by omega, rfl⟩
theorem yk_in0 {post : Int32 → Prop} {x : Int32} {N : Nat} (h : x < 0 ∨ nI N ≤ x) (hp : post 0) : wpY_in post x (nI N) := by
  refine br_c (fun _ => hp) (fun n => br_t ?_ hp)
  rcases h with h | h
  · exact absurd h n
  · exact h
theorem yk_in1 {post : Int32 → Prop} {s N : Nat} (h : s < N) (hN : N < 1000) (hp : post 1) : wpY_in post (nI s) (nI N) := br_f (nI_pos (by omega)) (br_f (nI_ge h (by omega)) hp)
section PUB
variable {B : Nat} {A : Nat → List bk_E} {g : Nat → Nat} {st lf cd bg gv ob ol pb pn xp fh fl fa mk cb mi mb ml pa kb kl kc th pl md cr hc hg hi ib il it qi qc gc lc lr co ta yp ki le go la ps pd pt kw kh kf kz ky wh od tg tr so bd wo be : Nat → Int32} {px fr en ma wr : Int32}
theorem xk_isS0 {post : Int32 → Prop} {x : Int32} (h : x < 0 ∨ nI 4 ≤ x) (hp : post 0) : wpX_isSession post (px, st, lf, cd, bg, gv, ob, ol, pb, pn, xp, fh, fl, fa, mk, cb, mi, mb, ml, pa, kb, kl, kc, th, pl, md, cr, hc, hg, hi, ib, il, it, qi, qc, gc, lc, lr, co) x := by
  refine br_c (fun _ => hp) (fun n => br_t ?_ hp)
  rcases h with h | h
  · exact absurd h n
  · exact h
theorem xk_isS1 {post : Int32 → Prop} {s : Nat} (h : s < 4) (hp : post 1) : wpX_isSession post (px, st, lf, cd, bg, gv, ob, ol, pb, pn, xp, fh, fl, fa, mk, cb, mi, mb, ml, pa, kb, kl, kc, th, pl, md, cr, hc, hg, hi, ib, il, it, qi, qc, gc, lc, lr, co) (nI s) := br_f (nI_pos (by omega)) (br_f (nI_ge (b := 4) h (by omega)) hp)
end PUB
theorem i_vc_open {k : Nat} {u : SX} {v : SY} (I : i_Rel k u v) (hk : k + 5 ≤ 2560) (v1 : Int32) : wpX_open (fun r u' => wpY_open (fun r' v' => r' = r ∧ i_Rel (k + 5) u' v') v v1) u v1 := by
  obtain ⟨A, g, px, st, lf, cd, bg, gv, ob, ol, pb, pn, xp, fh, fl, fa, mk, cb, mi, mb, ml, pa, kb, kl, kc, th, pl, md, cr, hc, hg, hi, ib, il, it, qi, qc, gc, lc, lr, co, fr, en, ma, wr, ta, yp, ki, le, go, la, ps, pd, pt, kw, kh, kf, kz, ky, wh, od, tg, tr, so, bd, wo, be, rfl, rfl, h⟩ := I
  have same : i_Rel (k + 5) (px, st, lf, cd, bg, gv, ob, ol, pb, pn, xp, fh, fl, fa, mk, cb, mi, mb, ml, pa, kb, kl, kc, th, pl, md, cr, hc, hg, hi, ib, il, it, qi, qc, gc, lc, lr, co) (fr, en, ma, wr, st, lf, cd, ta, bg, kc, ob, ol, pb, pn, yp, ki, le, go, mk, cb, mb, ml, la, ps, pd, pt, kw, kh, kf, kz, ky, th, pl, md, cr, gc, lc, lr, wh, od, tg, tr, so, bd, wo, be) := ⟨A, g, px, st, lf, cd, bg, gv, ob, ol, pb, pn, xp, fh, fl, fa, mk, cb, mi, mb, ml, pa, kb, kl, kc, th, pl, md, cr, hc, hg, hi, ib, il, it, qi, qc, gc, lc, lr, co, fr, en, ma, wr, ta, yp, ki, le, go, la, ps, pd, pt, kw, kh, kf, kz, ky, wh, od, tg, tr, so, bd, wo, be, rfl, rfl, bk_S_mono h (by omega)⟩
  unfold wpX_open
  rcases pk_ix v1 (n := 4) (by omega) with a | a | ⟨s, hs, rfl⟩
  · refine xk_isS0 (Or.inl a) (br_t rfl ?_)
    unfold wpY_open
    exact yk_in0 (N := 4) (Or.inl a) (br_t rfl ⟨rfl, same⟩)
  · refine xk_isS0 (Or.inr a) (br_t rfl ?_)
    unfold wpY_open
    exact yk_in0 (N := 4) (Or.inr a) (br_t rfl ⟨rfl, same⟩)
  · have cs : (nI s).toNatClampNeg = s := nI_clamp (by omega)
    have i4 : vp_in (nI s) 4 := pk_in s 4 hs
    refine xk_isS1 hs (br_f (by decide) ⟨i4, ?_⟩)
    rw [cs]
    by_cases e : st s = 0
    · refine br_t e ⟨i4, nm_e ?_⟩
      unfold wpY_open
      refine yk_in1 (N := 4) hs (by omega) (br_f (by decide) ⟨i4, ?_⟩)
      rw [cs]
      refine br_t e ⟨i4, nm_e ⟨rfl, A, g, px, upd st s 1, lf, cd, bg, gv, ob, ol, pb, pn, xp, fh, fl, fa, mk, cb, mi, mb, ml, pa, kb, kl, kc, th, pl, md, cr, hc, hg, hi, ib, il, it, qi, qc, gc, lc, lr, co, fr, en, ma, wr, ta, yp, ki, le, go, la, ps, pd, pt, kw, kh, kf, kz, ky, wh, od, tg, tr, so, bd, wo, be, rfl, rfl, ?_⟩⟩
      obtain ⟨⟨h1, h2, h3, h4, h5, h6, h7, h8⟩, hF⟩ := bk_S_mono h (show 1000 * k ≤ 1000 * (k + 5) by omega)
      refine ⟨⟨dk_st (a := 1) h1 (by omega), h2, h3, h4, h5, h6, fun z hz => ?_, h8⟩, hF⟩
      by_cases ez : z = s
      · subst ez; exact Or.inl pk_us
      · rw [pk_un ez]; exact h7 z hz
    · refine br_f e ?_
      unfold wpY_open
      refine yk_in1 (N := 4) hs (by omega) (br_f (by decide) ⟨i4, ?_⟩)
      rw [cs]
      exact br_f e ⟨rfl, same⟩
theorem i_vc_feed {k : Nat} {u : SX} {v : SY} (I : i_Rel k u v) (hk : k + 5 ≤ 2560) (v1 : Int32) (a1 : Int64) (v4 : Int32) : wpX_feed (fun r u' => wpY_feed (fun r' v' => r' = r ∧ i_Rel (k + 5) u' v') v v1 a1 v4) u v1 a1 v4 := by
  obtain ⟨A, g, px, st, lf, cd, bg, gv, ob, ol, pb, pn, xp, fh, fl, fa, mk, cb, mi, mb, ml, pa, kb, kl, kc, th, pl, md, cr, hc, hg, hi, ib, il, it, qi, qc, gc, lc, lr, co, fr, en, ma, wr, ta, yp, ki, le, go, la, ps, pd, pt, kw, kh, kf, kz, ky, wh, od, tg, tr, so, bd, wo, be, rfl, rfl, h⟩ := I
  have same : i_Rel (k + 5) (px, st, lf, cd, bg, gv, ob, ol, pb, pn, xp, fh, fl, fa, mk, cb, mi, mb, ml, pa, kb, kl, kc, th, pl, md, cr, hc, hg, hi, ib, il, it, qi, qc, gc, lc, lr, co) (fr, en, ma, wr, st, lf, cd, ta, bg, kc, ob, ol, pb, pn, yp, ki, le, go, mk, cb, mb, ml, la, ps, pd, pt, kw, kh, kf, kz, ky, th, pl, md, cr, gc, lc, lr, wh, od, tg, tr, so, bd, wo, be) := ⟨A, g, px, st, lf, cd, bg, gv, ob, ol, pb, pn, xp, fh, fl, fa, mk, cb, mi, mb, ml, pa, kb, kl, kc, th, pl, md, cr, hc, hg, hi, ib, il, it, qi, qc, gc, lc, lr, co, fr, en, ma, wr, ta, yp, ki, le, go, la, ps, pd, pt, kw, kh, kf, kz, ky, wh, od, tg, tr, so, bd, wo, be, rfl, rfl, bk_S_mono h (by omega)⟩
  unfold wpX_feed
  rcases pk_ix v1 (n := 4) (by omega) with a | a | ⟨s, hs, rfl⟩
  · refine xk_isS0 (Or.inl a) (br_t rfl ?_)
    unfold wpY_feed
    exact yk_in0 (N := 4) (Or.inl a) (br_t rfl ⟨rfl, same⟩)
  · refine xk_isS0 (Or.inr a) (br_t rfl ?_)
    unfold wpY_feed
    exact yk_in0 (N := 4) (Or.inr a) (br_t rfl ⟨rfl, same⟩)
  · have cs : (nI s).toNatClampNeg = s := nI_clamp (by omega)
    have i4 : vp_in (nI s) 4 := pk_in s 4 hs
    refine xk_isS1 hs (br_f (by decide) ?_)
    rcases iv_x (x := v4) (K := 8) (by omega) with bad | ⟨n, hn1, hn8, rfl⟩
    · have yb : wpY_feed (fun r' v' => r' = -1 ∧ i_Rel (k + 5) (px, st, lf, cd, bg, gv, ob, ol, pb, pn, xp, fh, fl, fa, mk, cb, mi, mb, ml, pa, kb, kl, kc, th, pl, md, cr, hc, hg, hi, ib, il, it, qi, qc, gc, lc, lr, co) v') (fr, en, ma, wr, st, lf, cd, ta, bg, kc, ob, ol, pb, pn, yp, ki, le, go, mk, cb, mb, ml, la, ps, pd, pt, kw, kh, kf, kz, ky, th, pl, md, cr, gc, lc, lr, wh, od, tg, tr, so, bd, wo, be) (nI s) a1 v4 := by
        unfold wpY_feed
        exact yk_in1 (N := 4) hs (by omega) (br_f (by decide) (yk_in0 (N := 8) (iv_n (by omega) bad) (br_t rfl ⟨rfl, same⟩)))
      refine br_c (fun _ => yb) (fun q => br_t ?_ yb)
      rcases bad with w | w
      · exact absurd w q
      · exact w
    · refine br_f (nI_nlt (b := 1) hn1 (by omega)) (br_f (nI_nlt (a := 8) hn8 (by omega)) ⟨i4, ?_⟩)
      rw [cs]
      have e1 : nI n - 1 = nI (n - 1) := pk_sub (a := n) (b := 1) hn1
      by_cases o : st s = 1
      · obtain ⟨r, hh⟩ := lk_feed hs hn8 a1 n (px := px) (st := st) (lf := lf) (cd := cd) (bg := bg) (gv := gv) (ob := ob) (ol := ol) (pb := pb) (pn := pn) (xp := xp) (fh := fh) (fl := fl) (fa := fa) (mk := mk) (cb := cb) (mi := mi) (mb := mb) (ml := ml) (pa := pa) (kb := kb) (kl := kl) (kc := kc) (th := th) (pl := pl) (md := md) (cr := cr) (hc := hc) (hg := hg) (hi := hi) (ib := ib) (il := il) (it := it) (qi := qi) (qc := qc) (gc := gc) (lc := lc) (lr := lr) (co := co) (fr := fr) (en := en) (ma := ma) (wr := wr) (ta := ta) (yp := yp) (ki := ki) (le := le) (go := go) (la := la) (ps := ps) (pd := pd) (pt := pt) (kw := kw) (kh := kh) (kf := kf) (kz := kz) (ky := ky) (wh := wh) (od := od) (tg := tg) (tr := tr) (so := so) (bd := bd) (wo := wo) (be := be) (Nat.le_refl _) h (by omega)
        obtain ⟨A2, g2, px2, st2, lf2, cd2, bg2, gv2, ob2, ol2, pb2, pn2, xp2, fh2, fl2, fa2, mk2, cb2, mi2, mb2, ml2, pa2, kb2, kl2, kc2, th2, pl2, md2, cr2, hc2, hg2, hi2, ib2, il2, it2, qi2, qc2, gc2, lc2, lr2, co2, fr2, en2, ma2, wr2, ta2, yp2, ki2, le2, go2, la2, ps2, pd2, pt2, kw2, kh2, kf2, kz2, ky2, wh2, od2, tg2, tr2, so2, bd2, wo2, be2, h3, x3, y3⟩ := hh
        simp only [Nat.sub_self] at x3 y3
        refine br_t o ⟨n + 1, x3 _ (n + 1) (by omega) ?_⟩
        unfold wpY_feed
        refine yk_in1 (N := 4) hs (by omega) (br_f (by decide) ?_)
        rw [e1]
        refine yk_in1 (N := 8) (by omega) (by omega) (br_f (by decide) ⟨i4, ?_⟩)
        rw [cs]
        exact br_t o ⟨n + 1, y3 _ (n + 1) (by omega) ⟨rfl, A2, g2, px2, st2, lf2, cd2, bg2, gv2, ob2, ol2, pb2, pn2, xp2, fh2, fl2, fa2, mk2, cb2, mi2, mb2, ml2, pa2, kb2, kl2, kc2, th2, pl2, md2, cr2, hc2, hg2, hi2, ib2, il2, it2, qi2, qc2, gc2, lc2, lr2, co2, fr2, en2, ma2, wr2, ta2, yp2, ki2, le2, go2, la2, ps2, pd2, pt2, kw2, kh2, kf2, kz2, ky2, wh2, od2, tg2, tr2, so2, bd2, wo2, be2, rfl, rfl, bk_S_mono h3 (by omega)⟩⟩
      · refine br_f o ?_
        unfold wpY_feed
        refine yk_in1 (N := 4) hs (by omega) (br_f (by decide) ?_)
        rw [e1]
        refine yk_in1 (N := 8) (by omega) (by omega) (br_f (by decide) ⟨i4, ?_⟩)
        rw [cs]
        exact br_f o ⟨rfl, same⟩
end
section
theorem bk_shn_0 (f : Nat → Int32) (b n : Nat) : (fun j => if b ≤ j ∧ j < b + 0 then f (j + n) else f j) = f := by
  funext j; rw [if_neg (by omega)]
def bk_shn (f : Nat → Int32) (b n i : Nat) : Nat → Int32 := fun j => if b ≤ j ∧ j < b + i then f (j + n) else f j
theorem bk_shn_o (f : Nat → Int32) (b n i : Nat) : bk_shn f b n i (b + i + n) = f (b + i + n) := by
  unfold bk_shn
  by_cases h : b ≤ b + i + n ∧ b + i + n < b + i
  · omega
  · rw [if_neg h]
theorem bk_shn_s (f : Nat → Int32) (b n i : Nat) : upd (bk_shn f b n i) (b + i) (f (b + i + n)) = bk_shn f b n (i + 1) := by
  funext j
  unfold upd bk_shn
  by_cases e : j = b + i
  · rw [if_pos e, if_pos (by omega), e]
  · rw [if_neg e]
    by_cases h : b ≤ j ∧ j < b + i
    · rw [if_pos h, if_pos (by omega)]
    · rw [if_neg h, if_neg (by omega)]
def bk_acc (ob : Nat → Int32) (s : Nat) : Nat → Int64
  | 0 => 0
  | k + 1 => bk_acc ob s k ||| (((ob (240 * s + k)).toInt64) <<< ((8 * nI k).toInt64 &&& 63))
section PUB2
variable {B : Nat} {A : Nat → List bk_E} {g : Nat → Nat} {st lf cd bg gv ob ol pb pn xp fh fl fa mk cb mi mb ml pa kb kl kc th pl md cr hc hg hi ib il it qi qc gc lc lr co ta yp ki le go la ps pd pt kw kh kf kz ky wh od tg tr so bd wo be : Nat → Int32} {px fr en ma wr : Int32}
theorem lk_S_clear (h : bk_S B A g st ol th pl md cr lr gv ib il it qi qc ta wh od tg tr so bd fr en hc hg hi kc kb kl kw kh kf kz ky mk cb mb pb pn bg be ml xp fh fl fa mi yp ki le go la ps pd pt) {s : Nat} (hs : s < 4) (hth : ∀ r, r < 16 → r / 4 = s → th r = 0) : bk_S B A (fun z => if z = s then 0 else g z) (upd st s (nI 0)) (upd ol s (nI 0)) th pl md cr lr (upd gv s 0) ib il it qi qc (upd ta s 0) wh od tg tr so bd fr en hc hg hi kc kb kl kw kh kf kz ky mk cb mb pb (upd pn s 0) bg be ml xp fh fl fa mi yp ki le go la ps pd pt := by
  obtain ⟨⟨h1, h2, h3, h4, h5, h6, h7, h8⟩, hF⟩ := h
  have w := dk_zero (s := s) (dk_ol (s := s) (a := 0) (dk_st (s := s) (a := 0) h1 (by omega)) (by omega)) (fun r hr e => by
    rcases h1.2.2.1 r hr with ⟨_, z⟩ | ⟨z, _⟩
    · exact z
    · rw [hth r hr e] at z; exact absurd z (by decide))
  refine ⟨⟨w, h2, h3, h4, fun z hz => ?_, h6, fun z hz => ?_, h8⟩, hF⟩
  · by_cases e : z = s
    · subst e; exact ⟨0, by omega, pk_us⟩
    · rw [pk_un e]; exact h5 z hz
  · by_cases e : z = s
    · subst e; exact Or.inr hth
    · rw [pk_un e]; exact h7 z hz
theorem xk_t91 {post : Int64 → SX → Prop} {s n a : Nat} {x4 : Int64} (hs : s < 4) (hna : n + a ≤ 240)
    (hp : wpX_giveQueues (fun u => match u with | (px, st, lf, cd, bg, gv, ob, ol, pb, pn, xp, fh, fl, fa, mk, cb, mi, mb, ml, pa, kb, kl, kc, th, pl, md, cr, hc, hg, hi, ib, il, it, qi, qc, gc, lc, lr, co) => post x4 (px, st, lf, cd, bg, gv, ob, ol, pb, pn, xp, fh, fl, fa, mk, cb, mi, mb, ml, pa, kb, kl, kc, th, pl, md, cr, hc, hg, hi, ib, il, it, qi, qc, gc, lc, lr, co)) (px, st, lf, cd, bg, gv, bk_shn ob (240 * s) n a, upd ol s (nI a), pb, pn, xp, fh, fl, fa, mk, cb, mi, mb, ml, pa, kb, kl, kc, th, pl, md, cr, hc, hg, hi, ib, il, it, qi, qc, gc, lc, lr, co)) :
    ∀ f i, i ≤ a → a - i < f → wX_take_91 post (nI s) (nI n) (nI (240 * s)) x4 (nI a) px f (nI i) st lf cd bg gv (bk_shn ob (240 * s) n i) ol pb pn xp fh fl fa mk cb mi mb ml pa kb kl kc th pl md cr hc hg hi ib il it qi qc gc lc lr co
  | 0, i, _, h => by omega
  | f + 1, i, h1, h2 => by
    have cs : (nI s).toNatClampNeg = s := nI_clamp (by omega)
    have e1 : nI (240 * s) + nI n + nI i = nI (240 * s + i + n) := by
      rw [nI_add, nI_add]
      exact congrArg nI (by omega)
    have e2 : nI (240 * s) + nI i = nI (240 * s + i) := nI_add _ _
    have c1 : (nI (240 * s + i + n)).toNatClampNeg = 240 * s + i + n := nI_clamp (by omega)
    have c2 : (nI (240 * s + i)).toNatClampNeg = 240 * s + i := nI_clamp (by omega)
    refine pk_le a i (fun g => ⟨pk_in s 4 hs, ?_⟩) (fun g => ?_)
    · have : i = a := by omega
      subst this
      rw [cs]
      exact nm_e hp
    · rw [e1, e2, c1, c2, bk_shn_o, bk_shn_s]
      exact ⟨vp_in_nI (by omega) (by omega), vp_in_nI (by omega) (by omega), nm_e (nm_r (nI_1 i) (xk_t91 hs hna hp f (i + 1) (by omega) (by omega)))⟩
theorem xk_t45 {post : Int64 → SX → Prop} {s n : Nat} (hs : s < 4) (hn : n ≤ 7) (hend : ∀ f, wX_take_45 post (nI s) (nI n) (nI (240 * s)) px st lf cd bg gv ob ol pb pn xp fh fl fa mk cb mi mb ml pa kb kl kc th pl md cr hc hg hi ib il it qi qc gc lc lr co (f + 1) (bk_acc ob s n) (nI n)) :
    ∀ f i, i ≤ n → n - i < f → wX_take_45 post (nI s) (nI n) (nI (240 * s)) px st lf cd bg gv ob ol pb pn xp fh fl fa mk cb mi mb ml pa kb kl kc th pl md cr hc hg hi ib il it qi qc gc lc lr co f (bk_acc ob s i) (nI i)
  | 0, i, _, h => by omega
  | f + 1, i, h1, h2 => by
    by_cases e : i = n
    · subst e; exact hend f
    · have e2 : nI (240 * s) + nI i = nI (240 * s + i) := nI_add _ _
      have c2 : (nI (240 * s + i)).toNatClampNeg = 240 * s + i := nI_clamp (by omega)
      refine br_f (nI_ge (by omega) (by omega)) ?_
      rw [e2, c2]
      exact ⟨vp_in_nI (by omega) (by omega), nm_e (nm_r (nI_1 i) (xk_t45 hs hn hend f (i + 1) (by omega) (by omega)))⟩
theorem yk_t90 {post : Int64 → SY → Prop} {s n a : Nat} {x3 : Int64} (hs : s < 4) (hna : n + a ≤ 240) (hol : ol s = nI a)
    (hp : wpY_giveAll (fun u => match u with | (fr, en, ma, wr, st, lf, cd, ta, bg, kc, ob, ol, pb, pn, yp, ki, le, go, mk, cb, mb, ml, la, ps, pd, pt, kw, kh, kf, kz, ky, th, pl, md, cr, gc, lc, lr, wh, od, tg, tr, so, bd, wo, be) => post x3 (fr, en, ma, wr, st, lf, cd, ta, bg, kc, ob, ol, pb, pn, yp, ki, le, go, mk, cb, mb, ml, la, ps, pd, pt, kw, kh, kf, kz, ky, th, pl, md, cr, gc, lc, lr, wh, od, tg, tr, so, bd, wo, be)) (fr, en, ma, wr, st, lf, cd, ta, bg, kc, bk_shn ob (240 * s) n a, ol, pb, pn, yp, ki, le, go, mk, cb, mb, ml, la, ps, pd, pt, kw, kh, kf, kz, ky, th, pl, md, cr, gc, lc, lr, wh, od, tg, tr, so, bd, wo, be)) :
    ∀ f i, i ≤ a → a - i < f → wY_take_90 post (nI s) (nI n) x3 fr en ma wr f (nI (240 * s + i)) st lf cd ta bg kc (bk_shn ob (240 * s) n i) ol pb pn yp ki le go mk cb mb ml la ps pd pt kw kh kf kz ky th pl md cr gc lc lr wh od tg tr so bd wo be
  | 0, i, _, h => by omega
  | f + 1, i, h1, h2 => by
    have cs : (nI s).toNatClampNeg = s := nI_clamp (by omega)
    have e0 : 240 * nI s + nI a = nI (240 * s + a) := by rw [bn_mul2, nI_add]
    have e1 : nI (240 * s + i) + nI n = nI (240 * s + i + n) := nI_add _ _
    have c1 : (nI (240 * s + i + n)).toNatClampNeg = 240 * s + i + n := nI_clamp (by omega)
    have c2 : (nI (240 * s + i)).toNatClampNeg = 240 * s + i := nI_clamp (by omega)
    refine ⟨pk_in s 4 hs, ?_⟩
    rw [cs, hol, e0]
    refine pk_le (240 * s + a) (240 * s + i) (fun g => ?_) (fun g => ?_)
    · have : i = a := by omega
      subst this
      exact hp
    · rw [e1, c1, c2, bk_shn_o, bk_shn_s]
      exact ⟨vp_in_nI (by omega) (by omega), vp_in_nI (by omega) (by omega), nm_e (nm_r (nI_1 _) (yk_t90 hs hna hol hp f (i + 1) (by omega) (by omega)))⟩
theorem yk_t38 {post : Int64 → SY → Prop} {s n : Nat} (hs : s < 4) (hn : n ≤ 7) (hend : ∀ f, wY_take_38 post (nI s) (nI n) fr en ma wr st lf cd ta bg kc ob ol pb pn yp ki le go mk cb mb ml la ps pd pt kw kh kf kz ky th pl md cr gc lc lr wh od tg tr so bd wo be (f + 1) (bk_acc ob s n) (nI n)) :
    ∀ f i, i ≤ n → n - i < f → wY_take_38 post (nI s) (nI n) fr en ma wr st lf cd ta bg kc ob ol pb pn yp ki le go mk cb mb ml la ps pd pt kw kh kf kz ky th pl md cr gc lc lr wh od tg tr so bd wo be f (bk_acc ob s i) (nI i)
  | 0, i, _, h => by omega
  | f + 1, i, h1, h2 => by
    by_cases e : i = n
    · subst e; exact hend f
    · have e2 : 240 * nI s + nI i = nI (240 * s + i) := by rw [bn_mul2, nI_add]
      have c2 : (nI (240 * s + i)).toNatClampNeg = 240 * s + i := nI_clamp (by omega)
      refine br_f (nI_ge (by omega) (by omega)) ?_
      rw [e2, c2]
      exact ⟨vp_in_nI (by omega) (by omega), nm_e (nm_r (nI_1 i) (yk_t38 hs hn hend f (i + 1) (by omega) (by omega)))⟩
end PUB2
theorem i_vc_shut {k : Nat} {u : SX} {v : SY} (I : i_Rel k u v) (hk : k + 5 ≤ 2560) (v1 : Int32) : wpX_shut (fun r u' => wpY_shut (fun r' v' => r' = r ∧ i_Rel (k + 5) u' v') v v1) u v1 := by
  obtain ⟨A, g, px, st, lf, cd, bg, gv, ob, ol, pb, pn, xp, fh, fl, fa, mk, cb, mi, mb, ml, pa, kb, kl, kc, th, pl, md, cr, hc, hg, hi, ib, il, it, qi, qc, gc, lc, lr, co, fr, en, ma, wr, ta, yp, ki, le, go, la, ps, pd, pt, kw, kh, kf, kz, ky, wh, od, tg, tr, so, bd, wo, be, rfl, rfl, h⟩ := I
  have same : i_Rel (k + 5) (px, st, lf, cd, bg, gv, ob, ol, pb, pn, xp, fh, fl, fa, mk, cb, mi, mb, ml, pa, kb, kl, kc, th, pl, md, cr, hc, hg, hi, ib, il, it, qi, qc, gc, lc, lr, co) (fr, en, ma, wr, st, lf, cd, ta, bg, kc, ob, ol, pb, pn, yp, ki, le, go, mk, cb, mb, ml, la, ps, pd, pt, kw, kh, kf, kz, ky, th, pl, md, cr, gc, lc, lr, wh, od, tg, tr, so, bd, wo, be) := ⟨A, g, px, st, lf, cd, bg, gv, ob, ol, pb, pn, xp, fh, fl, fa, mk, cb, mi, mb, ml, pa, kb, kl, kc, th, pl, md, cr, hc, hg, hi, ib, il, it, qi, qc, gc, lc, lr, co, fr, en, ma, wr, ta, yp, ki, le, go, la, ps, pd, pt, kw, kh, kf, kz, ky, wh, od, tg, tr, so, bd, wo, be, rfl, rfl, bk_S_mono h (by omega)⟩
  unfold wpX_shut
  rcases pk_ix v1 (n := 4) (by omega) with a | a | ⟨s, hs, rfl⟩
  · refine xk_isS0 (Or.inl a) (br_t rfl ?_)
    unfold wpY_shut
    exact yk_in0 (N := 4) (Or.inl a) (br_t rfl ⟨rfl, same⟩)
  · refine xk_isS0 (Or.inr a) (br_t rfl ?_)
    unfold wpY_shut
    exact yk_in0 (N := 4) (Or.inr a) (br_t rfl ⟨rfl, same⟩)
  · have cs : (nI s).toNatClampNeg = s := nI_clamp (by omega)
    have i4 : vp_in (nI s) 4 := pk_in s 4 hs
    refine xk_isS1 hs (br_f (by decide) ⟨i4, ?_⟩)
    rw [cs]
    by_cases e : st s = 0
    · refine br_t e ?_
      unfold wpY_shut
      refine yk_in1 (N := 4) hs (by omega) (br_f (by decide) ⟨i4, ?_⟩)
      rw [cs]
      exact br_t e ⟨rfl, same⟩
    · refine br_f e ⟨i4, ?_⟩
      by_cases o : st s = 1
      · obtain ⟨d, h1, th1, x1, y1⟩ := lk_S_ends (ob := ob) (gc := gc) (lc := lc) h.1 hs (fun q hq _ => h.2 q hq) (by omega)
        have h2 := lk_S_clear h1 hs th1
        rw [bk_uu] at h2
        obtain ⟨d2, h3, _, x3, y3⟩ := lk_S_give (ob := zz_ob d) (gc := zz_gc d) (lc := zz_lc d) h2 (by omega)
        refine br_t o (x1 _ ⟨i4, ?_⟩)
        rw [cs, bk_uu]
        refine nm_e ⟨i4, nm_e ⟨i4, nm_e ⟨i4, nm_e ⟨i4, nm_e ⟨i4, nm_e (x3 _ ?_)⟩⟩⟩⟩⟩
        unfold wpY_shut
        refine yk_in1 (N := 4) hs (by omega) (br_f (by decide) ⟨i4, ?_⟩)
        rw [cs]
        refine br_f e ⟨i4, br_t o (y1 _ ⟨i4, ?_⟩)⟩
        rw [cs, bk_uu]
        refine nm_e ⟨i4, nm_e ⟨i4, nm_e ⟨i4, nm_e ⟨i4, nm_e ⟨i4, nm_e (y3 _ ⟨rfl, ?_⟩)⟩⟩⟩⟩⟩
        exact ⟨zz_A d2, zz_g d2, px, upd st s (nI 0), upd lf s 0, upd cd s 0, upd bg s 0, zz_gv d2, zz_ob d2, zz_ol d2, pb, upd pn s 0, upd xp s 0, fh, fl, fa, mk, cb, upd mi s 0, mb, upd ml s 0, pa, kb, kl, upd kc s 0, zz_th d2, pl, md, cr, zz_hc d2, zz_hg d2, zz_hi d2, zz_ib d2, zz_il d2, zz_it d2, zz_qi d2, zz_qc d2, zz_gc d2, zz_lc d2, zz_lr d2, co, zz_fr d2, zz_en d2, ma, wr, zz_ta d2, upd yp s 0, ki, le, go, la, ps, pd, upd pt s 0, kw, kh, kf, kz, ky, zz_wh d2, zz_od d2, zz_tg d2, zz_tr d2, zz_so d2, zz_bd d2, wo, be, rfl, rfl, bk_S_mono h3 (by omega)⟩
      · have hth : ∀ r, r < 16 → r / 4 = s → th r = 0 := by
          rcases h.1.2.2.2.2.2.2.1 s hs with w | w
          · exact absurd w o
          · exact w
        have h2 := lk_S_clear h hs hth
        obtain ⟨d2, h3, _, x3, y3⟩ := lk_S_give (ob := ob) (gc := gc) (lc := lc) h2 (by omega)
        refine br_f o ⟨i4, ?_⟩
        rw [cs]
        refine nm_e ⟨i4, nm_e ⟨i4, nm_e ⟨i4, nm_e ⟨i4, nm_e ⟨i4, nm_e (x3 _ ?_)⟩⟩⟩⟩⟩
        unfold wpY_shut
        refine yk_in1 (N := 4) hs (by omega) (br_f (by decide) ⟨i4, ?_⟩)
        rw [cs]
        refine br_f e ⟨i4, br_f o ⟨i4, ?_⟩⟩
        rw [cs]
        refine nm_e ⟨i4, nm_e ⟨i4, nm_e ⟨i4, nm_e ⟨i4, nm_e ⟨i4, nm_e (y3 _ ⟨rfl, ?_⟩)⟩⟩⟩⟩⟩
        exact ⟨zz_A d2, zz_g d2, px, upd st s (nI 0), upd lf s 0, upd cd s 0, bg, zz_gv d2, zz_ob d2, zz_ol d2, pb, upd pn s 0, xp, fh, fl, fa, mk, cb, mi, mb, ml, pa, kb, kl, kc, zz_th d2, pl, md, cr, zz_hc d2, zz_hg d2, zz_hi d2, zz_ib d2, zz_il d2, zz_it d2, zz_qi d2, zz_qc d2, zz_gc d2, zz_lc d2, zz_lr d2, co, zz_fr d2, zz_en d2, ma, wr, zz_ta d2, yp, ki, le, go, la, ps, pd, pt, kw, kh, kf, kz, ky, zz_wh d2, zz_od d2, zz_tg d2, zz_tr d2, zz_so d2, zz_bd d2, wo, be, rfl, rfl, bk_S_mono h3 (by omega)⟩
theorem i_vc_take {k : Nat} {u : SX} {v : SY} (I : i_Rel k u v) (hk : k + 5 ≤ 2560) (v1 : Int32) (v2 : Int32) : wpX_take (fun r u' => wpY_take (fun r' v' => r' = r ∧ i_Rel (k + 5) u' v') v v1 v2) u v1 v2 := by
  obtain ⟨A, g, px, st, lf, cd, bg, gv, ob, ol, pb, pn, xp, fh, fl, fa, mk, cb, mi, mb, ml, pa, kb, kl, kc, th, pl, md, cr, hc, hg, hi, ib, il, it, qi, qc, gc, lc, lr, co, fr, en, ma, wr, ta, yp, ki, le, go, la, ps, pd, pt, kw, kh, kf, kz, ky, wh, od, tg, tr, so, bd, wo, be, rfl, rfl, h⟩ := I
  have same : i_Rel (k + 5) (px, st, lf, cd, bg, gv, ob, ol, pb, pn, xp, fh, fl, fa, mk, cb, mi, mb, ml, pa, kb, kl, kc, th, pl, md, cr, hc, hg, hi, ib, il, it, qi, qc, gc, lc, lr, co) (fr, en, ma, wr, st, lf, cd, ta, bg, kc, ob, ol, pb, pn, yp, ki, le, go, mk, cb, mb, ml, la, ps, pd, pt, kw, kh, kf, kz, ky, th, pl, md, cr, gc, lc, lr, wh, od, tg, tr, so, bd, wo, be) := ⟨A, g, px, st, lf, cd, bg, gv, ob, ol, pb, pn, xp, fh, fl, fa, mk, cb, mi, mb, ml, pa, kb, kl, kc, th, pl, md, cr, hc, hg, hi, ib, il, it, qi, qc, gc, lc, lr, co, fr, en, ma, wr, ta, yp, ki, le, go, la, ps, pd, pt, kw, kh, kf, kz, ky, wh, od, tg, tr, so, bd, wo, be, rfl, rfl, bk_S_mono h (by omega)⟩
  unfold wpX_take
  rcases pk_ix v1 (n := 4) (by omega) with a | a | ⟨s, hs, rfl⟩
  · refine xk_isS0 (Or.inl a) (br_t rfl ?_)
    unfold wpY_take
    exact yk_in0 (N := 4) (Or.inl a) (br_t rfl ⟨rfl, same⟩)
  · refine xk_isS0 (Or.inr a) (br_t rfl ?_)
    unfold wpY_take
    exact yk_in0 (N := 4) (Or.inr a) (br_t rfl ⟨rfl, same⟩)
  · have cs : (nI s).toNatClampNeg = s := nI_clamp (by omega)
    have i4 : vp_in (nI s) 4 := pk_in s 4 hs
    refine xk_isS1 hs (br_f (by decide) ?_)
    rcases iv_x (x := v2) (K := 7) (by omega) with bad | ⟨n, hn1, hn7, rfl⟩
    · have yb : wpY_take (fun r' v' => r' = -1 ∧ i_Rel (k + 5) (px, st, lf, cd, bg, gv, ob, ol, pb, pn, xp, fh, fl, fa, mk, cb, mi, mb, ml, pa, kb, kl, kc, th, pl, md, cr, hc, hg, hi, ib, il, it, qi, qc, gc, lc, lr, co) v') (fr, en, ma, wr, st, lf, cd, ta, bg, kc, ob, ol, pb, pn, yp, ki, le, go, mk, cb, mb, ml, la, ps, pd, pt, kw, kh, kf, kz, ky, th, pl, md, cr, gc, lc, lr, wh, od, tg, tr, so, bd, wo, be) (nI s) v2 := by
        unfold wpY_take
        exact yk_in1 (N := 4) hs (by omega) (br_f (by decide) (yk_in0 (N := 7) (iv_n (by omega) bad) (br_t rfl ⟨rfl, same⟩)))
      refine br_c (fun _ => yb) (fun q => br_t ?_ yb)
      rcases bad with w | w
      · exact absurd w q
      · exact w
    · obtain ⟨_, _, _, ⟨a, ha, ea⟩, _⟩ := h.1.1.2.2.2.1 s hs
      have e1 : nI n - 1 = nI (n - 1) := pk_sub (a := n) (b := 1) hn1
      refine br_f (nI_nlt (b := 1) hn1 (by omega)) (br_f (nI_nlt (a := 7) hn7 (by omega)) ⟨i4, ?_⟩)
      rw [cs, ea]
      refine pk_le n a (fun gg => ?_) (fun gg => ?_)
      · have e240 : nI s * 240 = nI (240 * s) := by rw [bn_mul, Nat.mul_comm]
        have y240 : 240 * nI s = nI (240 * s) := bn_mul2 s 240
        have es : nI a - nI n = nI (a - n) := pk_sub gg
        have hS : bk_S (1000 * k) A g st (upd ol s (nI (a - n))) th pl md cr lr gv ib il it qi qc ta wh od tg tr so bd fr en hc hg hi kc kb kl kw kh kf kz ky mk cb mb pb pn bg be ml xp fh fl fa mi yp ki le go la ps pd pt := ⟨⟨dk_ol h.1.1 (by omega), h.1.2⟩, h.2⟩
        obtain ⟨d, h3, _, x3, y3⟩ := lk_S_give (ob := bk_shn ob (240 * s) n (a - n)) (gc := gc) (lc := lc) hS (by omega)
        refine nm_r e240 ⟨n + 1, xk_t45 hs hn7 (fun f => br_t (nI_le (Nat.le_refl _) (by omega)) ⟨i4, ?_⟩) (n + 1) 0 (by omega) (by omega)⟩
        rw [cs, ea]
        refine nm_r es ⟨a - n + 1, ?_⟩
        have w := xk_t91 (post := fun r u' => wpY_take (fun r' v' => r' = r ∧ i_Rel (k + 5) u' v') (fr, en, ma, wr, st, lf, cd, ta, bg, kc, ob, ol, pb, pn, yp, ki, le, go, mk, cb, mb, ml, la, ps, pd, pt, kw, kh, kf, kz, ky, th, pl, md, cr, gc, lc, lr, wh, od, tg, tr, so, bd, wo, be) (nI s) (nI n)) (s := s) (n := n) (a := a - n) (x4 := bk_acc ob s n) (ob := ob) (ol := ol) (px := px) (st := st) (lf := lf) (cd := cd) (bg := bg) (gv := gv) (pb := pb) (pn := pn) (xp := xp) (fh := fh) (fl := fl) (fa := fa) (mk := mk) (cb := cb) (mi := mi) (mb := mb) (ml := ml) (pa := pa) (kb := kb) (kl := kl) (kc := kc) (th := th) (pl := pl) (md := md) (cr := cr) (hc := hc) (hg := hg) (hi := hi) (ib := ib) (il := il) (it := it) (qi := qi) (qc := qc) (gc := gc) (lc := lc) (lr := lr) (co := co) hs (by omega) (x3 _ (by
          show wpY_take _ _ _ _
          unfold wpY_take
          refine yk_in1 (N := 4) hs (by omega) (br_f (by decide) ?_)
          rw [e1]
          refine yk_in1 (N := 7) (by omega) (by omega) (br_f (by decide) ⟨i4, ?_⟩)
          rw [cs, ea]
          refine br_t (nI_le gg (by omega)) ⟨n + 1, yk_t38 hs hn7 (fun f => br_t (nI_le (Nat.le_refl _) (by omega)) ⟨i4, i4, ?_⟩) (n + 1) 0 (by omega) (by omega)⟩
          rw [cs, ea, es]
          refine nm_e (nm_r y240 ⟨a - n + 1, ?_⟩)
          have wy := yk_t90 (post := fun r' v' => r' = bk_acc ob s n ∧ i_Rel (k + 5) (px, st, lf, cd, bg, zz_gv d, zz_ob d, zz_ol d, pb, pn, xp, fh, fl, fa, mk, cb, mi, mb, ml, pa, kb, kl, kc, zz_th d, pl, md, cr, zz_hc d, zz_hg d, zz_hi d, zz_ib d, zz_il d, zz_it d, zz_qi d, zz_qc d, zz_gc d, zz_lc d, zz_lr d, co) v') (s := s) (n := n) (a := a - n) (x3 := bk_acc ob s n) (ol := upd ol s (nI (a - n))) (st := st) (lf := lf) (cd := cd) (bg := bg) (ob := ob) (pb := pb) (pn := pn) (mk := mk) (cb := cb) (mb := mb) (ml := ml) (kc := kc) (th := th) (pl := pl) (md := md) (cr := cr) (gc := gc) (lc := lc) (lr := lr) (fr := fr) (en := en) (ma := ma) (wr := wr) (ta := ta) (yp := yp) (ki := ki) (le := le) (go := go) (la := la) (ps := ps) (pd := pd) (pt := pt) (kw := kw) (kh := kh) (kf := kf) (kz := kz) (ky := ky) (wh := wh) (od := od) (tg := tg) (tr := tr) (so := so) (bd := bd) (wo := wo) (be := be) hs (by omega) pk_us (y3 _ ⟨rfl, zz_A d, zz_g d, px, st, lf, cd, bg, zz_gv d, zz_ob d, zz_ol d, pb, pn, xp, fh, fl, fa, mk, cb, mi, mb, ml, pa, kb, kl, kc, zz_th d, pl, md, cr, zz_hc d, zz_hg d, zz_hi d, zz_ib d, zz_il d, zz_it d, zz_qi d, zz_qc d, zz_gc d, zz_lc d, zz_lr d, co, zz_fr d, zz_en d, ma, wr, zz_ta d, yp, ki, le, go, la, ps, pd, pt, kw, kh, kf, kz, ky, zz_wh d, zz_od d, zz_tg d, zz_tr d, zz_so d, zz_bd d, wo, be, rfl, rfl, bk_S_mono h3 (by omega)⟩) (a - n + 1) 0 (by omega) (by omega)
          have z0 : bk_shn ob (240 * s) n 0 = ob := bk_shn_0 ob (240 * s) n
          rw [z0] at wy
          exact wy)) (a - n + 1) 0 (by omega) (by omega)
        have z0 : bk_shn ob (240 * s) n 0 = ob := bk_shn_0 ob (240 * s) n
        rw [z0] at w
        exact w
      · unfold wpY_take
        refine yk_in1 (N := 4) hs (by omega) (br_f (by decide) ?_)
        rw [e1]
        refine yk_in1 (N := 7) (by omega) (by omega) (br_f (by decide) ⟨i4, ?_⟩)
        rw [cs, ea]
        exact br_f (nI_ge gg (by omega)) ⟨rfl, same⟩
theorem i_vc_output {k : Nat} {u : SX} {v : SY} (I : i_Rel k u v) (hk : k + 5 ≤ 2560) (v1 : Int32) (v2 : Int32) : wpX_output (fun r => wpY_output (fun r' => r' = r ∧ i_Rel (k + 5) u v) v v1 v2) u v1 v2 := by
  obtain ⟨A, g, px, st, lf, cd, bg, gv, ob, ol, pb, pn, xp, fh, fl, fa, mk, cb, mi, mb, ml, pa, kb, kl, kc, th, pl, md, cr, hc, hg, hi, ib, il, it, qi, qc, gc, lc, lr, co, fr, en, ma, wr, ta, yp, ki, le, go, la, ps, pd, pt, kw, kh, kf, kz, ky, wh, od, tg, tr, so, bd, wo, be, rfl, rfl, h⟩ := I
  have same : i_Rel (k + 5) (px, st, lf, cd, bg, gv, ob, ol, pb, pn, xp, fh, fl, fa, mk, cb, mi, mb, ml, pa, kb, kl, kc, th, pl, md, cr, hc, hg, hi, ib, il, it, qi, qc, gc, lc, lr, co) (fr, en, ma, wr, st, lf, cd, ta, bg, kc, ob, ol, pb, pn, yp, ki, le, go, mk, cb, mb, ml, la, ps, pd, pt, kw, kh, kf, kz, ky, th, pl, md, cr, gc, lc, lr, wh, od, tg, tr, so, bd, wo, be) := ⟨A, g, px, st, lf, cd, bg, gv, ob, ol, pb, pn, xp, fh, fl, fa, mk, cb, mi, mb, ml, pa, kb, kl, kc, th, pl, md, cr, hc, hg, hi, ib, il, it, qi, qc, gc, lc, lr, co, fr, en, ma, wr, ta, yp, ki, le, go, la, ps, pd, pt, kw, kh, kf, kz, ky, wh, od, tg, tr, so, bd, wo, be, rfl, rfl, bk_S_mono h (by omega)⟩
  unfold wpX_output
  rcases pk_ix v1 (n := 4) (by omega) with a | a | ⟨s, hs, rfl⟩
  · refine xk_isS0 (Or.inl a) (br_t rfl ?_)
    unfold wpY_output
    exact yk_in0 (N := 4) (Or.inl a) (br_t rfl ⟨rfl, same⟩)
  · refine xk_isS0 (Or.inr a) (br_t rfl ?_)
    unfold wpY_output
    exact yk_in0 (N := 4) (Or.inr a) (br_t rfl ⟨rfl, same⟩)
  · have cs : (nI s).toNatClampNeg = s := nI_clamp (by omega)
    have i4 : vp_in (nI s) 4 := pk_in s 4 hs
    obtain ⟨_, _, _, ⟨a, ha, ea⟩, _⟩ := h.1.1.2.2.2.1 s hs
    refine xk_isS1 hs (br_f (by decide) ?_)
    rcases pk_ix v2 (n := a) (by omega) with q | q | ⟨j, hj, rfl⟩
    · refine br_t q ?_
      unfold wpY_output
      refine yk_in1 (N := 4) hs (by omega) (br_f (by decide) ⟨i4, ?_⟩)
      rw [cs, ea]
      exact yk_in0 (Or.inl q) (br_t rfl ⟨rfl, same⟩)
    · have yb : wpY_output (fun r' => r' = -1 ∧ i_Rel (k + 5) (px, st, lf, cd, bg, gv, ob, ol, pb, pn, xp, fh, fl, fa, mk, cb, mi, mb, ml, pa, kb, kl, kc, th, pl, md, cr, hc, hg, hi, ib, il, it, qi, qc, gc, lc, lr, co) (fr, en, ma, wr, st, lf, cd, ta, bg, kc, ob, ol, pb, pn, yp, ki, le, go, mk, cb, mb, ml, la, ps, pd, pt, kw, kh, kf, kz, ky, th, pl, md, cr, gc, lc, lr, wh, od, tg, tr, so, bd, wo, be)) (fr, en, ma, wr, st, lf, cd, ta, bg, kc, ob, ol, pb, pn, yp, ki, le, go, mk, cb, mb, ml, la, ps, pd, pt, kw, kh, kf, kz, ky, th, pl, md, cr, gc, lc, lr, wh, od, tg, tr, so, bd, wo, be) (nI s) v2 := by
        unfold wpY_output
        refine yk_in1 (N := 4) hs (by omega) (br_f (by decide) ⟨i4, ?_⟩)
        rw [cs, ea]
        exact yk_in0 (Or.inr q) (br_t rfl ⟨rfl, same⟩)
      refine br_c (fun _ => yb) (fun _ => ⟨i4, ?_⟩)
      rw [cs, ea]
      exact br_f (Int32.not_lt.mpr q) yb
    · have e1 : nI s * 240 + nI j = nI (240 * s + j) := by rw [bn_mul, nI_add, Nat.mul_comm]
      have e2 : 240 * nI s + nI j = nI (240 * s + j) := by rw [bn_mul2, nI_add]
      refine br_f (nI_pos (by omega)) ⟨i4, ?_⟩
      rw [cs, ea, e1]
      refine br_t (nI_lt hj (by omega)) ⟨vp_in_nI (by omega) (by omega), ?_⟩
      unfold wpY_output
      refine yk_in1 (N := 4) hs (by omega) (br_f (by decide) ⟨i4, ?_⟩)
      rw [cs, ea]
      refine yk_in1 hj (by omega) (br_f (by decide) ?_)
      rw [e2]
      exact ⟨vp_in_nI (by omega) (by omega), rfl, same⟩
theorem i_vc_past {k : Nat} {u : SX} {v : SY} (I : i_Rel k u v) (hk : k + 5 ≤ 2560) (v1 : Int32) (v2 : Int32) : wpX_past (fun r => wpY_past (fun r' => r' = r ∧ i_Rel (k + 5) u v) v v1 v2) u v1 v2 := by
  obtain ⟨A, g, px, st, lf, cd, bg, gv, ob, ol, pb, pn, xp, fh, fl, fa, mk, cb, mi, mb, ml, pa, kb, kl, kc, th, pl, md, cr, hc, hg, hi, ib, il, it, qi, qc, gc, lc, lr, co, fr, en, ma, wr, ta, yp, ki, le, go, la, ps, pd, pt, kw, kh, kf, kz, ky, wh, od, tg, tr, so, bd, wo, be, rfl, rfl, h⟩ := I
  have same : i_Rel (k + 5) (px, st, lf, cd, bg, gv, ob, ol, pb, pn, xp, fh, fl, fa, mk, cb, mi, mb, ml, pa, kb, kl, kc, th, pl, md, cr, hc, hg, hi, ib, il, it, qi, qc, gc, lc, lr, co) (fr, en, ma, wr, st, lf, cd, ta, bg, kc, ob, ol, pb, pn, yp, ki, le, go, mk, cb, mb, ml, la, ps, pd, pt, kw, kh, kf, kz, ky, th, pl, md, cr, gc, lc, lr, wh, od, tg, tr, so, bd, wo, be) := ⟨A, g, px, st, lf, cd, bg, gv, ob, ol, pb, pn, xp, fh, fl, fa, mk, cb, mi, mb, ml, pa, kb, kl, kc, th, pl, md, cr, hc, hg, hi, ib, il, it, qi, qc, gc, lc, lr, co, fr, en, ma, wr, ta, yp, ki, le, go, la, ps, pd, pt, kw, kh, kf, kz, ky, wh, od, tg, tr, so, bd, wo, be, rfl, rfl, bk_S_mono h (by omega)⟩
  unfold wpX_past
  rcases pk_ix v1 (n := 4) (by omega) with a | a | ⟨s, hs, rfl⟩
  · refine xk_isS0 (Or.inl a) (br_t rfl ?_)
    unfold wpY_past
    exact yk_in0 (N := 4) (Or.inl a) (br_t rfl ⟨rfl, same⟩)
  · refine xk_isS0 (Or.inr a) (br_t rfl ?_)
    unfold wpY_past
    exact yk_in0 (N := 4) (Or.inr a) (br_t rfl ⟨rfl, same⟩)
  · have cs : (nI s).toNatClampNeg = s := nI_clamp (by omega)
    have i4 : vp_in (nI s) 4 := pk_in s 4 hs
    obtain ⟨a, ha, ea⟩ := h.1.2.2.2.2.1 s hs
    refine xk_isS1 hs (br_f (by decide) ?_)
    rcases pk_ix v2 (n := a) (by omega) with q | q | ⟨j, hj, rfl⟩
    · refine br_t q ?_
      unfold wpY_past
      refine yk_in1 (N := 4) hs (by omega) (br_f (by decide) ⟨i4, ?_⟩)
      rw [cs, ea]
      exact yk_in0 (Or.inl q) (br_t rfl ⟨rfl, same⟩)
    · have yb : wpY_past (fun r' => r' = -1 ∧ i_Rel (k + 5) (px, st, lf, cd, bg, gv, ob, ol, pb, pn, xp, fh, fl, fa, mk, cb, mi, mb, ml, pa, kb, kl, kc, th, pl, md, cr, hc, hg, hi, ib, il, it, qi, qc, gc, lc, lr, co) (fr, en, ma, wr, st, lf, cd, ta, bg, kc, ob, ol, pb, pn, yp, ki, le, go, mk, cb, mb, ml, la, ps, pd, pt, kw, kh, kf, kz, ky, th, pl, md, cr, gc, lc, lr, wh, od, tg, tr, so, bd, wo, be)) (fr, en, ma, wr, st, lf, cd, ta, bg, kc, ob, ol, pb, pn, yp, ki, le, go, mk, cb, mb, ml, la, ps, pd, pt, kw, kh, kf, kz, ky, th, pl, md, cr, gc, lc, lr, wh, od, tg, tr, so, bd, wo, be) (nI s) v2 := by
        unfold wpY_past
        refine yk_in1 (N := 4) hs (by omega) (br_f (by decide) ⟨i4, ?_⟩)
        rw [cs, ea]
        exact yk_in0 (Or.inr q) (br_t rfl ⟨rfl, same⟩)
      refine br_c (fun _ => yb) (fun _ => ⟨i4, ?_⟩)
      rw [cs, ea]
      exact br_f (Int32.not_lt.mpr q) yb
    · have e1 : nI s * 64 + nI a - 1 - nI j = nI (64 * s + a - 1 - j) := by
        rw [bn_mul, nI_add, Nat.mul_comm]
        have : nI (64 * s + a) - 1 = nI (64 * s + a - 1) := pk_sub (a := 64 * s + a) (b := 1) (by omega)
        rw [this, pk_sub (by omega)]
      have e2 : 64 * nI s + nI a - 1 - nI j = nI (64 * s + a - 1 - j) := by
        rw [bn_mul2, nI_add]
        have : nI (64 * s + a) - 1 = nI (64 * s + a - 1) := pk_sub (a := 64 * s + a) (b := 1) (by omega)
        rw [this, pk_sub (by omega)]
      refine br_f (nI_pos (by omega)) ⟨i4, ?_⟩
      rw [cs, ea, e1]
      refine br_t (nI_lt hj (by omega)) ⟨i4, vp_in_nI (by omega) (by omega), ?_⟩
      unfold wpY_past
      refine yk_in1 (N := 4) hs (by omega) (br_f (by decide) ⟨i4, ?_⟩)
      rw [cs, ea]
      refine yk_in1 hj (by omega) (br_f (by decide) ⟨i4, ?_⟩)
      rw [e2]
      exact ⟨vp_in_nI (by omega) (by omega), rfl, same⟩
theorem i_vc_session {k : Nat} {u : SX} {v : SY} (I : i_Rel k u v) (hk : k + 5 ≤ 2560) (v1 : Int32) (v2 : Int32) : wpX_session (fun r => wpY_session (fun r' => r' = r ∧ i_Rel (k + 5) u v) v v1 v2) u v1 v2 := by
  obtain ⟨A, g, px, st, lf, cd, bg, gv, ob, ol, pb, pn, xp, fh, fl, fa, mk, cb, mi, mb, ml, pa, kb, kl, kc, th, pl, md, cr, hc, hg, hi, ib, il, it, qi, qc, gc, lc, lr, co, fr, en, ma, wr, ta, yp, ki, le, go, la, ps, pd, pt, kw, kh, kf, kz, ky, wh, od, tg, tr, so, bd, wo, be, rfl, rfl, h⟩ := I
  have same : i_Rel (k + 5) (px, st, lf, cd, bg, gv, ob, ol, pb, pn, xp, fh, fl, fa, mk, cb, mi, mb, ml, pa, kb, kl, kc, th, pl, md, cr, hc, hg, hi, ib, il, it, qi, qc, gc, lc, lr, co) (fr, en, ma, wr, st, lf, cd, ta, bg, kc, ob, ol, pb, pn, yp, ki, le, go, mk, cb, mb, ml, la, ps, pd, pt, kw, kh, kf, kz, ky, th, pl, md, cr, gc, lc, lr, wh, od, tg, tr, so, bd, wo, be) := ⟨A, g, px, st, lf, cd, bg, gv, ob, ol, pb, pn, xp, fh, fl, fa, mk, cb, mi, mb, ml, pa, kb, kl, kc, th, pl, md, cr, hc, hg, hi, ib, il, it, qi, qc, gc, lc, lr, co, fr, en, ma, wr, ta, yp, ki, le, go, la, ps, pd, pt, kw, kh, kf, kz, ky, wh, od, tg, tr, so, bd, wo, be, rfl, rfl, bk_S_mono h (by omega)⟩
  unfold wpX_session
  rcases pk_ix v1 (n := 4) (by omega) with a | a | ⟨s, hs, rfl⟩
  · refine xk_isS0 (Or.inl a) (br_t rfl ?_)
    unfold wpY_session
    exact yk_in0 (N := 4) (Or.inl a) (br_t rfl ⟨rfl, same⟩)
  · refine xk_isS0 (Or.inr a) (br_t rfl ?_)
    unfold wpY_session
    exact yk_in0 (N := 4) (Or.inr a) (br_t rfl ⟨rfl, same⟩)
  · have cs : (nI s).toNatClampNeg = s := nI_clamp (by omega)
    have i4 : vp_in (nI s) 4 := pk_in s 4 hs
    obtain ⟨g1, g2, g3, _⟩ := h.1.1.2.2.2.1 s hs
    refine xk_isS1 hs (br_f (by decide) ?_)
    rcases pk_ix v2 (n := 8) (by omega) with q | q | ⟨j, hj, rfl⟩
    · refine br_t q ?_
      unfold wpY_session
      exact yk_in1 (N := 4) hs (by omega) (br_f (by decide) (br_t q ⟨rfl, same⟩))
    · have q0 : ¬ v2 < 0 := fun z => by
        rw [Int32.lt_iff_toInt_lt, show (0 : Int32).toInt = 0 from by decide] at z
        rw [Int32.le_iff_toInt_le, nI_toInt (by omega)] at q
        omega
      have q7 : 7 < v2 := by
        rw [Int32.le_iff_toInt_le, nI_toInt (by omega)] at q
        rw [Int32.lt_iff_toInt_lt, show (7 : Int32).toInt = 7 from by decide]
        omega
      refine br_f q0 (br_t q7 ?_)
      unfold wpY_session
      exact yk_in1 (N := 4) hs (by omega) (br_f (by decide) (br_f q0 (br_t q7 ⟨rfl, same⟩)))
    · have jj : j = 0 ∨ j = 1 ∨ j = 2 ∨ j = 3 ∨ j = 4 ∨ j = 5 ∨ j = 6 ∨ j = 7 := by omega
      rcases jj with rfl | rfl | rfl | rfl | rfl | rfl | rfl | rfl
      · refine br_f (by decide) (br_f (by decide) (br_t rfl (⟨i4, ?_⟩)))
        unfold wpY_session
        exact yk_in1 (N := 4) hs (by omega) (br_f (by decide) (br_f (by decide) (br_f (by decide) (br_t rfl (⟨i4, rfl, same⟩)))))
      · refine br_f (by decide) (br_f (by decide) (br_f (by decide) (br_t rfl (⟨i4, ?_⟩))))
        unfold wpY_session
        exact yk_in1 (N := 4) hs (by omega) (br_f (by decide) (br_f (by decide) (br_f (by decide) (br_f (by decide) (br_t rfl (⟨i4, rfl, same⟩))))))
      · refine br_f (by decide) (br_f (by decide) (br_f (by decide) (br_f (by decide) (br_t rfl (⟨i4, ?_⟩)))))
        unfold wpY_session
        exact yk_in1 (N := 4) hs (by omega) (br_f (by decide) (br_f (by decide) (br_f (by decide) (br_f (by decide) (br_f (by decide) (br_t rfl (⟨i4, rfl, same⟩)))))))
      · refine br_f (by decide) (br_f (by decide) (br_f (by decide) (br_f (by decide) (br_f (by decide) (br_t rfl (⟨i4, ?_⟩))))))
        unfold wpY_session
        exact yk_in1 (N := 4) hs (by omega) (br_f (by decide) (br_f (by decide) (br_f (by decide) (br_f (by decide) (br_f (by decide) (br_f (by decide) (br_t rfl (⟨i4, rfl, same⟩))))))))
      · refine br_f (by decide) (br_f (by decide) (br_f (by decide) (br_f (by decide) (br_f (by decide) (br_f (by decide) (br_t rfl (⟨i4, ?_⟩)))))))
        unfold wpY_session
        exact yk_in1 (N := 4) hs (by omega) (br_f (by decide) (br_f (by decide) (br_f (by decide) (br_f (by decide) (br_f (by decide) (br_f (by decide) (br_f (by decide) (br_t rfl (⟨i4, rfl, same⟩)))))))))
      · refine br_f (by decide) (br_f (by decide) (br_f (by decide) (br_f (by decide) (br_f (by decide) (br_f (by decide) (br_f (by decide) (br_t rfl (⟨i4, ?_⟩))))))))
        rw [cs, g1, bn_255 _ (by omega)]
        unfold wpY_session
        refine yk_in1 (N := 4) hs (by omega) (br_f (by decide) (br_f (by decide) (br_f (by decide) (br_f (by decide) (br_f (by decide) (br_f (by decide) (br_f (by decide) (br_f (by decide) (br_t rfl (⟨i4, ?_⟩))))))))))
        rw [cs, g2]
        exact ⟨rfl, same⟩
      · refine br_f (by decide) (br_f (by decide) (br_f (by decide) (br_f (by decide) (br_f (by decide) (br_f (by decide) (br_f (by decide) (br_f (by decide) (br_t rfl (⟨i4, ?_⟩)))))))))
        unfold wpY_session
        exact yk_in1 (N := 4) hs (by omega) (br_f (by decide) (br_f (by decide) (br_f (by decide) (br_f (by decide) (br_f (by decide) (br_f (by decide) (br_f (by decide) (br_f (by decide) (br_f (by decide) (br_t rfl (⟨i4, rfl, same⟩)))))))))))
      · refine br_f (by decide) (br_f (by decide) (br_f (by decide) (br_f (by decide) (br_f (by decide) (br_f (by decide) (br_f (by decide) (br_f (by decide) (br_f (by decide) (br_t rfl (⟨i4, ?_⟩))))))))))
        unfold wpY_session
        exact yk_in1 (N := 4) hs (by omega) (br_f (by decide) (br_f (by decide) (br_f (by decide) (br_f (by decide) (br_f (by decide) (br_f (by decide) (br_f (by decide) (br_f (by decide) (br_f (by decide) (br_f (by decide) (br_t rfl (⟨i4, rfl, same⟩))))))))))))
end
section
section PUB3
variable {B : Nat} {A : Nat → List bk_E} {g : Nat → Nat} {st lf cd bg gv ob ol pb pn xp fh fl fa mk cb mi mb ml pa kb kl kc th pl md cr hc hg hi ib il it qi qc gc lc lr co ta yp ki le go la ps pd pt kw kh kf kz ky wh od tg tr so bd wo be : Nat → Int32} {px fr en ma wr : Int32}
theorem xk_isP0 {post : Int32 → Prop} {x : Int32} (h : x < 0 ∨ nI 6 ≤ x) (hp : post 0) : wpX_isPlace post (px, st, lf, cd, bg, gv, ob, ol, pb, pn, xp, fh, fl, fa, mk, cb, mi, mb, ml, pa, kb, kl, kc, th, pl, md, cr, hc, hg, hi, ib, il, it, qi, qc, gc, lc, lr, co) x := by
  refine br_c (fun _ => hp) (fun n => br_t ?_ hp)
  rcases h with h | h
  · exact absurd h n
  · exact h
theorem xk_isQ0 {post : Int32 → Prop} {x : Int32} (h : x < 0 ∨ nI 3 ≤ x) (hp : post 0) : wpX_isQueue post (px, st, lf, cd, bg, gv, ob, ol, pb, pn, xp, fh, fl, fa, mk, cb, mi, mb, ml, pa, kb, kl, kc, th, pl, md, cr, hc, hg, hi, ib, il, it, qi, qc, gc, lc, lr, co) x := by
  refine br_c (fun _ => hp) (fun n => br_t ?_ hp)
  rcases h with h | h
  · exact absurd h n
  · exact h
theorem lk_ready (h : bk_C B A g st ol th pl md cr lr gv ib il it qi qc ta wh od tg tr so bd fr en) (rh : bk_RH A hi hg hc) {t n : Nat} (ht : t < 6) (hn : n ≤ 16) : ∀ (N c : Nat), N ≤ 16 → c + N ≤ 16 → ∃ r : Int32,
    (∀ (post : Int32 → Prop) (f : Nat), N < f → post r → wX_ready_26 post (nI t) (nI n) px st lf cd bg gv ob ol pb pn xp fh fl fa mk cb mi mb ml pa kb kl kc th pl md cr hc hg hi ib il it qi qc gc lc lr co f (nI c) (nI (16 - N))) ∧
    (∀ (post : Int32 → Prop) (f : Nat), N < f → post r → wY_ready_27 post (nI t) (nI n) fr en ma wr st lf cd ta bg kc ob ol pb pn yp ki le go mk cb mb ml la ps pd pt kw kh kf kz ky th pl md cr gc lc lr wh od tg tr so bd wo be f (nI c) (nI (16 - N))) := by
  intro N
  induction N with
  | zero =>
    intro c _ _
    refine ⟨nI c, ?_, ?_⟩
    · intro post f hf hp
      obtain ⟨f, rfl⟩ : ∃ f', f = f' + 1 := ⟨f - 1, by omega⟩
      exact br_t (by decide) hp
    · intro post f hf hp
      obtain ⟨f, rfl⟩ : ∃ f', f = f' + 1 := ⟨f - 1, by omega⟩
      exact br_t (by decide) hp
  | succ N ih =>
    intro c hN hc16
    have e : 16 - N = 16 - (N + 1) + 1 := by omega
    have nle : ¬ (16 : Int32) ≤ nI (16 - (N + 1)) := nI_ge (b := 16) (by omega) (by omega)
    by_cases can : bk_Can A st ol th pl md cr (16 - (N + 1)) t n
    · obtain ⟨r, x1, y1⟩ := ih (c + 1) (by omega) (by omega)
      rw [e] at x1 y1
      refine ⟨r, ?_, ?_⟩
      · intro post f hf hp
        obtain ⟨f, rfl⟩ : ∃ f', f = f' + 1 := ⟨f - 1, by omega⟩
        exact br_f nle (xk_canTake h rh (by omega) ht (by omega) (fun _ => br_f (by decide) (nm_r (nI_1 c) (nm_r (nI_1 _) (x1 post f (by omega) hp)))) (fun q => absurd can q))
      · intro post f hf hp
        obtain ⟨f, rfl⟩ : ∃ f', f = f' + 1 := ⟨f - 1, by omega⟩
        exact br_f nle (yk_can h (by omega) ht (by omega) (fun _ => br_f (by decide) (nm_r (nI_1 c) (nm_r (nI_1 _) (y1 post f (by omega) hp)))) (fun q => absurd can q))
    · obtain ⟨r, x1, y1⟩ := ih c (by omega) (by omega)
      rw [e] at x1 y1
      refine ⟨r, ?_, ?_⟩
      · intro post f hf hp
        obtain ⟨f, rfl⟩ : ∃ f', f = f' + 1 := ⟨f - 1, by omega⟩
        exact br_f nle (xk_canTake h rh (by omega) ht (by omega) (fun q => absurd q can) (fun _ => br_t rfl (nm_r (nI_1 _) (x1 post f (by omega) hp))))
      · intro post f hf hp
        obtain ⟨f, rfl⟩ : ∃ f', f = f' + 1 := ⟨f - 1, by omega⟩
        exact br_f nle (yk_can h (by omega) ht (by omega) (fun q => absurd q can) (fun _ => br_t rfl (nm_r (nI_1 _) (y1 post f (by omega) hp))))
/-- Y goes from item to item -/
theorem yk_item24 {post : Int32 → Prop} {t i : Nat} {x3 : Int32} (h : bk_C B A g st ol th pl md cr lr gv ib il it qi qc ta wh od tg tr so bd fr en) (ht : t < 3) (hi2 : i < 2 ^ 31) (h1 : ∀ p, (A t)[i]? = some p → wY_item_55 post x3 (nI p.2.1) fr en ma wr st lf cd ta bg kc ob ol pb pn yp ki le go mk cb mb ml la ps pd pt kw kh kf kz ky th pl md cr gc lc lr wh od tg tr so bd wo be) (h0 : (A t).length ≤ i → wY_item_55 post x3 (-1) fr en ma wr st lf cd ta bg kc ob ol pb pn yp ki le go mk cb mb ml la ps pd pt kw kh kf kz ky th pl md cr gc lc lr wh od tg tr so bd wo be) :
    ∀ (f : Nat) (l1 l2 : List bk_E) (b : Int32), A t = l1 ++ l2 → l1.length ≤ i → l2.length < f → ((l2 = [] ∧ b = -1) ∨ ∃ p l, l2 = p :: l ∧ b = nI p.2.1) → wY_item_24 post (nI t) (nI i) x3 fr en ma wr st lf cd ta bg kc ob ol pb pn yp ki le go mk cb mb ml la ps pd pt kw kh kf kz ky th pl md cr gc lc lr wh od tg tr so bd wo be f b (nI l1.length)
  | 0, l1, l2, b, _, _, hf, _ => by omega
  | f + 1, l1, l2, b, hA, hl, hf, hb => by
    have h8 := (dk_len h).1 t ht
    have hlen : (A t).length = l1.length + l2.length := by rw [hA, List.length_append]
    rcases hb with ⟨e, rfl⟩ | ⟨p, l, e, rfl⟩
    · subst e
      rw [List.length_nil] at hlen
      exact br_c (fun _ => h0 (by omega)) (fun _ => br_t bk_m1lt (h0 (by omega)))
    · subst e
      have hp : p ∈ A t := by rw [hA]; exact List.mem_append_right l1 List.mem_cons_self
      have c0 := h.1.1 t p (by omega) hp
      have cy : (nI p.2.1).toNatClampNeg = p.2.1 := nI_clamp (by omega)
      refine pk_le i l1.length (fun g => h1 p ?_) (fun g => br_f (nI_pos (by omega)) ⟨vp_in_nI c0.1 (by omega), ?_⟩)
      · have : i = l1.length := by omega
        rw [this, hA, List.getElem?_append_right (Nat.le_refl _), Nat.sub_self]
        rfl
      · rw [cy]
        have pw := h.1.2.1 t (by omega)
        rw [hA, List.pairwise_append, List.pairwise_cons] at pw
        refine yk_after (fun b hb => nm_r (nI_1 _) ?_)
        have w := bk_after h.1 (L := t) (by omega) (T := od p.2.1) (l1 := l1 ++ [p]) (l2 := l) (by rw [hA]; simp) (fun q hq => by
          rcases List.mem_append.mp hq with z | z
          · have := pw.2.2 q z p List.mem_cons_self; omega
          · rw [List.mem_singleton] at z; rw [z]; exact Int.le_refl _) (fun q hq => pw.2.1.1 q hq) hb
        have z := yk_item24 h ht hi2 h1 h0 f (l1 ++ [p]) l b (by rw [hA]; simp) (by rw [List.length_append, List.length_singleton]; omega) (by rw [List.length_cons] at hf; omega) w
        rw [List.length_append, List.length_singleton] at z
        exact z
end PUB3
theorem i_vc_ready {k : Nat} {u : SX} {v : SY} (I : i_Rel k u v) (hk : k + 5 ≤ 2560) (v1 : Int32) (v2 : Int32) : wpX_ready (fun r => wpY_ready (fun r' => r' = r ∧ i_Rel (k + 5) u v) v v1 v2) u v1 v2 := by
  obtain ⟨A, g, px, st, lf, cd, bg, gv, ob, ol, pb, pn, xp, fh, fl, fa, mk, cb, mi, mb, ml, pa, kb, kl, kc, th, pl, md, cr, hc, hg, hi, ib, il, it, qi, qc, gc, lc, lr, co, fr, en, ma, wr, ta, yp, ki, le, go, la, ps, pd, pt, kw, kh, kf, kz, ky, wh, od, tg, tr, so, bd, wo, be, rfl, rfl, h⟩ := I
  have same : i_Rel (k + 5) (px, st, lf, cd, bg, gv, ob, ol, pb, pn, xp, fh, fl, fa, mk, cb, mi, mb, ml, pa, kb, kl, kc, th, pl, md, cr, hc, hg, hi, ib, il, it, qi, qc, gc, lc, lr, co) (fr, en, ma, wr, st, lf, cd, ta, bg, kc, ob, ol, pb, pn, yp, ki, le, go, mk, cb, mb, ml, la, ps, pd, pt, kw, kh, kf, kz, ky, th, pl, md, cr, gc, lc, lr, wh, od, tg, tr, so, bd, wo, be) := ⟨A, g, px, st, lf, cd, bg, gv, ob, ol, pb, pn, xp, fh, fl, fa, mk, cb, mi, mb, ml, pa, kb, kl, kc, th, pl, md, cr, hc, hg, hi, ib, il, it, qi, qc, gc, lc, lr, co, fr, en, ma, wr, ta, yp, ki, le, go, la, ps, pd, pt, kw, kh, kf, kz, ky, wh, od, tg, tr, so, bd, wo, be, rfl, rfl, bk_S_mono h (by omega)⟩
  unfold wpX_ready
  rcases pk_ix v1 (n := 6) (by omega) with a | a | ⟨t, ht, rfl⟩
  · refine xk_isP0 (Or.inl a) (br_t rfl ?_)
    unfold wpY_ready
    exact yk_in0 (N := 6) (Or.inl a) (br_t rfl ⟨rfl, same⟩)
  · refine xk_isP0 (Or.inr a) (br_t rfl ?_)
    unfold wpY_ready
    exact yk_in0 (N := 6) (Or.inr a) (br_t rfl ⟨rfl, same⟩)
  · refine xk_isPlace (by omega) (fun _ => br_f (by decide) ?_) (fun q => by omega)
    rcases iv_x (x := v2) (K := 16) (by omega) with bad | ⟨n, hn1, hn16, rfl⟩
    · have yb : wpY_ready (fun r' => r' = -1 ∧ i_Rel (k + 5) (px, st, lf, cd, bg, gv, ob, ol, pb, pn, xp, fh, fl, fa, mk, cb, mi, mb, ml, pa, kb, kl, kc, th, pl, md, cr, hc, hg, hi, ib, il, it, qi, qc, gc, lc, lr, co) (fr, en, ma, wr, st, lf, cd, ta, bg, kc, ob, ol, pb, pn, yp, ki, le, go, mk, cb, mb, ml, la, ps, pd, pt, kw, kh, kf, kz, ky, th, pl, md, cr, gc, lc, lr, wh, od, tg, tr, so, bd, wo, be)) (fr, en, ma, wr, st, lf, cd, ta, bg, kc, ob, ol, pb, pn, yp, ki, le, go, mk, cb, mb, ml, la, ps, pd, pt, kw, kh, kf, kz, ky, th, pl, md, cr, gc, lc, lr, wh, od, tg, tr, so, bd, wo, be) (nI t) v2 := by
        unfold wpY_ready
        exact yk_in1 (N := 6) ht (by omega) (br_f (by decide) (yk_in0 (N := 16) (iv_n (by omega) bad) (br_t rfl ⟨rfl, same⟩)))
      refine br_c (fun _ => yb) (fun q => br_f ?_ yb)
      rcases bad with w | w
      · exact absurd w q
      · exact Int32.not_le.mpr w
    · have e1 : nI n - 1 = nI (n - 1) := pk_sub (a := n) (b := 1) hn1
      obtain ⟨r, x1, y1⟩ := lk_ready (px := px) (st := st) (lf := lf) (cd := cd) (bg := bg) (gv := gv) (ob := ob) (ol := ol) (pb := pb) (pn := pn) (xp := xp) (fh := fh) (fl := fl) (fa := fa) (mk := mk) (cb := cb) (mi := mi) (mb := mb) (ml := ml) (pa := pa) (kb := kb) (kl := kl) (kc := kc) (th := th) (pl := pl) (md := md) (cr := cr) (hc := hc) (hg := hg) (hi := hi) (ib := ib) (il := il) (it := it) (qi := qi) (qc := qc) (gc := gc) (lc := lc) (lr := lr) (co := co) (fr := fr) (en := en) (ma := ma) (wr := wr) (ta := ta) (yp := yp) (ki := ki) (le := le) (go := go) (la := la) (ps := ps) (pd := pd) (pt := pt) (kw := kw) (kh := kh) (kf := kf) (kz := kz) (ky := ky) (wh := wh) (od := od) (tg := tg) (tr := tr) (so := so) (bd := bd) (wo := wo) (be := be) h.1.1 h.1.2.1 ht hn16 16 0 (by omega) (by omega)
      refine br_f (nI_nlt (b := 1) hn1 (by omega)) (br_t (nI_le (b := 16) hn16 (by omega)) ⟨17, x1 _ 17 (by omega) ?_⟩)
      unfold wpY_ready
      refine yk_in1 (N := 6) ht (by omega) (br_f (by decide) ?_)
      rw [e1]
      exact yk_in1 (N := 16) (by omega) (by omega) (br_f (by decide) ⟨17, y1 _ 17 (by omega) ⟨rfl, same⟩⟩)
theorem i_vc_item {k : Nat} {u : SX} {v : SY} (I : i_Rel k u v) (hk : k + 5 ≤ 2560) (v1 : Int32) (v2 : Int32) (v3 : Int32) : wpX_item (fun r => wpY_item (fun r' => r' = r ∧ i_Rel (k + 5) u v) v v1 v2 v3) u v1 v2 v3 := by
  obtain ⟨A, g, px, st, lf, cd, bg, gv, ob, ol, pb, pn, xp, fh, fl, fa, mk, cb, mi, mb, ml, pa, kb, kl, kc, th, pl, md, cr, hc, hg, hi, ib, il, it, qi, qc, gc, lc, lr, co, fr, en, ma, wr, ta, yp, ki, le, go, la, ps, pd, pt, kw, kh, kf, kz, ky, wh, od, tg, tr, so, bd, wo, be, rfl, rfl, h⟩ := I
  have same : i_Rel (k + 5) (px, st, lf, cd, bg, gv, ob, ol, pb, pn, xp, fh, fl, fa, mk, cb, mi, mb, ml, pa, kb, kl, kc, th, pl, md, cr, hc, hg, hi, ib, il, it, qi, qc, gc, lc, lr, co) (fr, en, ma, wr, st, lf, cd, ta, bg, kc, ob, ol, pb, pn, yp, ki, le, go, mk, cb, mb, ml, la, ps, pd, pt, kw, kh, kf, kz, ky, th, pl, md, cr, gc, lc, lr, wh, od, tg, tr, so, bd, wo, be) := ⟨A, g, px, st, lf, cd, bg, gv, ob, ol, pb, pn, xp, fh, fl, fa, mk, cb, mi, mb, ml, pa, kb, kl, kc, th, pl, md, cr, hc, hg, hi, ib, il, it, qi, qc, gc, lc, lr, co, fr, en, ma, wr, ta, yp, ki, le, go, la, ps, pd, pt, kw, kh, kf, kz, ky, wh, od, tg, tr, so, bd, wo, be, rfl, rfl, bk_S_mono h (by omega)⟩
  unfold wpX_item
  rcases pk_ix v1 (n := 3) (by omega) with a | a | ⟨t, ht, rfl⟩
  · refine xk_isQ0 (Or.inl a) (br_t rfl ?_)
    unfold wpY_item
    exact yk_in0 (N := 3) (Or.inl a) (br_t rfl ⟨rfl, same⟩)
  · refine xk_isQ0 (Or.inr a) (br_t rfl ?_)
    unfold wpY_item
    exact yk_in0 (N := 3) (Or.inr a) (br_t rfl ⟨rfl, same⟩)
  · have ct : (nI t).toNatClampNeg = t := nI_clamp (by omega)
    have i3 : vp_in (nI t) 3 := pk_in t 3 ht
    have hq := h.1.1.2.1 t ht
    have h8 := (dk_len h.1.1).1 t ht
    refine br_f (nI_pos (by omega)) (br_f (nI_ge (b := 3) ht (by omega)) (br_f (by decide) ?_))
    by_cases neg : v2 < 0
    · refine br_t neg ?_
      unfold wpY_item
      exact yk_in1 (N := 3) ht (by omega) (br_f (by decide) (br_f (Int32.not_le.mpr neg) ⟨rfl, same⟩))
    · obtain ⟨i, hii, rfl⟩ := nI_of neg
      refine br_f neg ⟨i3, ?_⟩
      rw [ct, hq.1]
      -- Y's walk, given what it finds
      have yw : ∀ (post : Int32 → Prop), (∀ p, (A t)[i]? = some p → wY_item_55 post v3 (nI p.2.1) fr en ma wr st lf cd ta bg kc ob ol pb pn yp ki le go mk cb mb ml la ps pd pt kw kh kf kz ky th pl md cr gc lc lr wh od tg tr so bd wo be) → ((A t).length ≤ i → wY_item_55 post v3 (-1) fr en ma wr st lf cd ta bg kc ob ol pb pn yp ki le go mk cb mb ml la ps pd pt kw kh kf kz ky th pl md cr gc lc lr wh od tg tr so bd wo be) → wpY_item post (fr, en, ma, wr, st, lf, cd, ta, bg, kc, ob, ol, pb, pn, yp, ki, le, go, mk, cb, mb, ml, la, ps, pd, pt, kw, kh, kf, kz, ky, th, pl, md, cr, gc, lc, lr, wh, od, tg, tr, so, bd, wo, be) (nI t) (nI i) v3 := by
        intro post g1 g0
        unfold wpY_item
        · refine yk_in1 (N := 3) ht (by omega) (br_f (by decide) (br_t (nI_pos' hii) (yk_firstAt h.1.1 (by omega) (by omega) (fun e => ⟨9, ?_⟩) (fun p l e => ⟨9, ?_⟩))))
          · exact yk_item24 h.1.1 ht hii g1 g0 9 [] (A t) (-1) rfl (by simp) (by omega) (Or.inl ⟨e, rfl⟩)
          · exact yk_item24 h.1.1 ht hii g1 g0 9 [] (A t) (nI p.2.1) rfl (by simp) (by omega) (Or.inr ⟨p, l, e, rfl⟩)
      refine pk_lt i (A t).length (fun g => ?_) (fun g => ?_)
      · have hp : (A t)[i]? = some ((A t)[i]) := List.getElem?_eq_some_iff.mpr ⟨g, rfl⟩
        generalize (A t)[i] = p at hp
        have hpm : p ∈ A t := List.mem_of_getElem? hp
        have qi' := hq.2 i p hp
        rcases (h.1.1.1.1 t p (by omega) hpm).2.2.1 with ⟨_, q, n, tt, o1, o2, o3, o4, o5, o6, o7, o8, o9, o10⟩ | ⟨x, _⟩
        rotate_left
        · exact absurd (Or.inl ht) x
        have hy := (h.1.1.1.1 t p (by omega) hpm).1
        have e1 : nI t * 8 + nI i = nI (t * 8 + i) := by rw [bn_mul, nI_add]
        have c1 : (nI (t * 8 + i)).toNatClampNeg = t * 8 + i := nI_clamp (by omega)
        have cq : (nI q).toNatClampNeg = q := nI_clamp (by omega)
        have cy : (nI p.2.1).toNatClampNeg = p.2.1 := nI_clamp (by omega)
        have yw1 : ∀ (post : Int32 → Prop), wY_item_55 post v3 (nI p.2.1) fr en ma wr st lf cd ta bg kc ob ol pb pn yp ki le go mk cb mb ml la ps pd pt kw kh kf kz ky th pl md cr gc lc lr wh od tg tr so bd wo be → wpY_item post (fr, en, ma, wr, st, lf, cd, ta, bg, kc, ob, ol, pb, pn, yp, ki, le, go, mk, cb, mb, ml, la, ps, pd, pt, kw, kh, kf, kz, ky, th, pl, md, cr, gc, lc, lr, wh, od, tg, tr, so, bd, wo, be) (nI t) (nI i) v3 := fun post w => yw post (fun p' hp' => by
          rw [hp] at hp'
          cases hp'
          exact w) (fun z => by omega)
        rw [e1, c1, qi', o2]
        refine ⟨vp_in_nI (by omega) (by omega), nm_e ?_⟩
        rw [cq, o6]
        rcases pk_ix v3 (n := n) (by omega) with q3 | q3 | ⟨j, hj, rfl⟩
        · refine br_t q3 (yw1 _ (br_f (nI_pos (by omega)) ⟨vp_in_nI hy (by omega), ?_⟩))
          rw [cy, o7]
          exact yk_in0 (Or.inl q3) (br_t rfl ⟨rfl, same⟩)
        · have yb : wpY_item (fun r' => r' = -1 ∧ i_Rel (k + 5) (px, st, lf, cd, bg, gv, ob, ol, pb, pn, xp, fh, fl, fa, mk, cb, mi, mb, ml, pa, kb, kl, kc, th, pl, md, cr, hc, hg, hi, ib, il, it, qi, qc, gc, lc, lr, co) (fr, en, ma, wr, st, lf, cd, ta, bg, kc, ob, ol, pb, pn, yp, ki, le, go, mk, cb, mb, ml, la, ps, pd, pt, kw, kh, kf, kz, ky, th, pl, md, cr, gc, lc, lr, wh, od, tg, tr, so, bd, wo, be)) (fr, en, ma, wr, st, lf, cd, ta, bg, kc, ob, ol, pb, pn, yp, ki, le, go, mk, cb, mb, ml, la, ps, pd, pt, kw, kh, kf, kz, ky, th, pl, md, cr, gc, lc, lr, wh, od, tg, tr, so, bd, wo, be) (nI t) (nI i) v3 := yw1 _ (br_f (nI_pos (by omega)) ⟨vp_in_nI hy (by omega), by
            rw [cy, o7]
            exact yk_in0 (Or.inr q3) (br_t rfl ⟨rfl, same⟩)⟩)
          exact br_c (fun _ => yb) (fun _ => ⟨vp_in_nI (by omega) (by omega), br_f (Int32.not_lt.mpr q3) yb⟩)
        · have e2 : nI q * 16 + nI j = nI (q * 16 + j) := by rw [bn_mul, nI_add]
          have c2 : (nI (q * 16 + j)).toNatClampNeg = q * 16 + j := nI_clamp (by omega)
          have e3 : 16 * nI p.2.1 + nI j = nI (16 * p.2.1 + j) := by rw [bn_mul2, nI_add]
          have c3 : (nI (16 * p.2.1 + j)).toNatClampNeg = 16 * p.2.1 + j := nI_clamp (by omega)
          refine br_f (nI_pos (by omega)) ⟨vp_in_nI (by omega) (by omega), br_t (nI_lt hj (by omega)) ?_⟩
          rw [e2, c2]
          refine ⟨vp_in_nI (by omega) (by omega), yw1 _ (br_f (nI_pos (by omega)) ⟨vp_in_nI hy (by omega), ?_⟩)⟩
          rw [cy, o7]
          refine yk_in1 hj (by omega) (br_f (by decide) ?_)
          rw [e3, c3]
          exact ⟨vp_in_nI (by omega) (by omega), (o10 j hj).symm, same⟩
      · exact yw _ (fun p hp => by have := bk_lt_of_some hp; omega) (fun _ => br_t bk_m1lt ⟨rfl, same⟩)
end
section
theorem iv_big {x : Int32} {K : Nat} (hK : K < 1000) (h : nI (K + 1) ≤ x) : ¬ x < 0 ∧ nI K < x := by
  rw [Int32.le_iff_toInt_le, nI_toInt (by omega)] at h
  rw [Int32.lt_iff_toInt_lt, Int32.lt_iff_toInt_lt, nI_toInt (by omega), show (0 : Int32).toInt = 0 from by decide]
  omega
theorem i_vc_subscription {k : Nat} {u : SX} {v : SY} (I : i_Rel k u v) (hk : k + 5 ≤ 2560) (v1 : Int32) (v2 : Int32) (v3 : Int32) : wpX_subscription (fun r => wpY_subscription (fun r' => r' = r ∧ i_Rel (k + 5) u v) v v1 v2 v3) u v1 v2 v3 := by
  obtain ⟨A, g, px, st, lf, cd, bg, gv, ob, ol, pb, pn, xp, fh, fl, fa, mk, cb, mi, mb, ml, pa, kb, kl, kc, th, pl, md, cr, hc, hg, hi, ib, il, it, qi, qc, gc, lc, lr, co, fr, en, ma, wr, ta, yp, ki, le, go, la, ps, pd, pt, kw, kh, kf, kz, ky, wh, od, tg, tr, so, bd, wo, be, rfl, rfl, h⟩ := I
  have same : i_Rel (k + 5) (px, st, lf, cd, bg, gv, ob, ol, pb, pn, xp, fh, fl, fa, mk, cb, mi, mb, ml, pa, kb, kl, kc, th, pl, md, cr, hc, hg, hi, ib, il, it, qi, qc, gc, lc, lr, co) (fr, en, ma, wr, st, lf, cd, ta, bg, kc, ob, ol, pb, pn, yp, ki, le, go, mk, cb, mb, ml, la, ps, pd, pt, kw, kh, kf, kz, ky, th, pl, md, cr, gc, lc, lr, wh, od, tg, tr, so, bd, wo, be) := ⟨A, g, px, st, lf, cd, bg, gv, ob, ol, pb, pn, xp, fh, fl, fa, mk, cb, mi, mb, ml, pa, kb, kl, kc, th, pl, md, cr, hc, hg, hi, ib, il, it, qi, qc, gc, lc, lr, co, fr, en, ma, wr, ta, yp, ki, le, go, la, ps, pd, pt, kw, kh, kf, kz, ky, wh, od, tg, tr, so, bd, wo, be, rfl, rfl, bk_S_mono h (by omega)⟩
  unfold wpX_subscription
  rcases pk_ix v1 (n := 4) (by omega) with a | a | ⟨s, hs, rfl⟩
  · refine xk_isS0 (Or.inl a) (br_t rfl ?_)
    unfold wpY_subscription
    exact yk_in0 (N := 4) (Or.inl a) (br_t rfl ⟨rfl, same⟩)
  · refine xk_isS0 (Or.inr a) (br_t rfl ?_)
    unfold wpY_subscription
    exact yk_in0 (N := 4) (Or.inr a) (br_t rfl ⟨rfl, same⟩)
  · refine xk_isS1 hs (br_f (by decide) ?_)
    rcases pk_ix v2 (n := 4) (by omega) with q | q | ⟨j, hj, rfl⟩
    · refine br_t q ?_
      unfold wpY_subscription
      exact yk_in1 (N := 4) hs (by omega) (br_f (by decide) (yk_in0 (N := 4) (Or.inl q) (br_t rfl ⟨rfl, same⟩)))
    · have yb : wpY_subscription (fun r' => r' = -1 ∧ i_Rel (k + 5) (px, st, lf, cd, bg, gv, ob, ol, pb, pn, xp, fh, fl, fa, mk, cb, mi, mb, ml, pa, kb, kl, kc, th, pl, md, cr, hc, hg, hi, ib, il, it, qi, qc, gc, lc, lr, co) (fr, en, ma, wr, st, lf, cd, ta, bg, kc, ob, ol, pb, pn, yp, ki, le, go, mk, cb, mb, ml, la, ps, pd, pt, kw, kh, kf, kz, ky, th, pl, md, cr, gc, lc, lr, wh, od, tg, tr, so, bd, wo, be)) (fr, en, ma, wr, st, lf, cd, ta, bg, kc, ob, ol, pb, pn, yp, ki, le, go, mk, cb, mb, ml, la, ps, pd, pt, kw, kh, kf, kz, ky, th, pl, md, cr, gc, lc, lr, wh, od, tg, tr, so, bd, wo, be) (nI s) v2 v3 := by
        unfold wpY_subscription
        exact yk_in1 (N := 4) hs (by omega) (br_f (by decide) (yk_in0 (N := 4) (Or.inr q) (br_t rfl ⟨rfl, same⟩)))
      exact br_c (fun _ => yb) (fun _ => br_f (Int32.not_lt.mpr q) yb)
    · have hr : 4 * s + j < 16 := by omega
      have e1 : nI s * 4 + nI j = nI (4 * s + j) := by rw [bn_mul, nI_add, Nat.mul_comm]
      have e2 : 4 * nI s + nI j = nI (4 * s + j) := by rw [bn_mul2, nI_add]
      have cr' : (nI (4 * s + j)).toNatClampNeg = 4 * s + j := nI_clamp (by omega)
      have i16 : vp_in (nI (4 * s + j)) 16 := vp_in_nI hr (by omega)
      have e3 : 3 + nI (4 * s + j) = nI (3 + (4 * s + j)) := bn_add2 _ 3
      have hh := h.1.2.1 _ hr
      have h5 := (dk_len h.1.1).2 _ hr
      -- Y's way to what is asked
      have yw : ∀ (post : Int32 → Prop), (th (4 * s + j) = 0 → post (-1)) → (th (4 * s + j) ≠ 0 → ∀ r8 : Int32, ((A (3 + (4 * s + j)) = [] ∧ r8 = -1) ∨ ∃ p l, A (3 + (4 * s + j)) = p :: l ∧ r8 = nI p.2.1) →
          (((v3 < 0 → (post (-1))) ∧ (¬ v3 < 0 → (((4 < v3 → (post (-1))) ∧ (¬ 4 < v3 → (((v3 = 0 → (vp_in (nI (4 * s + j)) 16 ∧ (post (pl (4 * s + j))))) ∧ (¬ v3 = 0 → (((v3 = 1 → (vp_in (nI (4 * s + j)) 16 ∧ (post (md (4 * s + j))))) ∧ (¬ v3 = 1 → (((v3 = 2 → (vp_in (nI (4 * s + j)) 16 ∧ (post (cr (4 * s + j))))) ∧ (¬ v3 = 2 → (((v3 = 3 → (wpY_count (fun r_64 => (post r_64)) (fr, en, ma, wr, st, lf, cd, ta, bg, kc, ob, ol, pb, pn, yp, ki, le, go, mk, cb, mb, ml, la, ps, pd, pt, kw, kh, kf, kz, ky, th, pl, md, cr, gc, lc, lr, wh, od, tg, tr, so, bd, wo, be) (nI (3 + (4 * s + j))))) ∧ (¬ v3 = 3 → (((v3 = 4 → (((0 ≤ r8 → (vp_in r8 112 ∧ (post (tg r8.toNatClampNeg)))) ∧ (¬ 0 ≤ r8 → (post (-1)))))) ∧ (¬ v3 = 4 → (True))))))))))))))))))))))) → wpY_subscription post (fr, en, ma, wr, st, lf, cd, ta, bg, kc, ob, ol, pb, pn, yp, ki, le, go, mk, cb, mb, ml, la, ps, pd, pt, kw, kh, kf, kz, ky, th, pl, md, cr, gc, lc, lr, wh, od, tg, tr, so, bd, wo, be) (nI s) (nI j) v3 := by
        intro post g0 g1
        unfold wpY_subscription
        refine yk_in1 (N := 4) hs (by omega) (br_f (by decide) (yk_in1 (N := 4) hj (by omega) (br_f (by decide) ?_)))
        rw [e2, cr']
        refine ⟨i16, br_c g0 (fun q => nm_e ?_)⟩
        rw [e3, cr']
        exact yk_firstAt h.1.1 (by omega) (by omega) (fun e => g1 q (-1) (Or.inl ⟨e, rfl⟩)) (fun p l e => g1 q (nI p.2.1) (Or.inr ⟨p, l, e, rfl⟩))
      refine br_f (nI_pos (by omega)) (br_t (nI_lt (b := 4) hj (by omega)) (nm_r e1 ?_))
      rw [cr']
      refine ⟨i16, br_c (fun e => ?_) (fun e => ?_)⟩
      · exact yw _ (fun _ => ⟨rfl, same⟩) (fun z => absurd e z)
      · rcases pk_ix v3 (n := 5) (by omega) with q3 | q3 | ⟨w, hw, rfl⟩
        · exact br_t q3 (yw _ (fun z => absurd z e) (fun _ r8 _ => br_t q3 ⟨rfl, same⟩))
        · obtain ⟨q4, q5⟩ := iv_big (K := 4) (by omega) q3
          exact br_f q4 (br_t q5 (yw _ (fun z => absurd z e) (fun _ r8 _ => br_f q4 (br_t q5 ⟨rfl, same⟩))))
        · have ww : w = 0 ∨ w = 1 ∨ w = 2 ∨ w = 3 ∨ w = 4 := by omega
          rcases ww with rfl | rfl | rfl | rfl | rfl
          · exact br_f (by decide) (br_f (by decide) (br_t rfl (⟨i16, yw _ (fun z => absurd z e) (fun _ r8 _ => br_f (by decide) (br_f (by decide) (br_t rfl (⟨i16, rfl, same⟩))))⟩)))
          · exact br_f (by decide) (br_f (by decide) (br_f (by decide) (br_t rfl (⟨i16, yw _ (fun z => absurd z e) (fun _ r8 _ => br_f (by decide) (br_f (by decide) (br_f (by decide) (br_t rfl (⟨i16, rfl, same⟩)))))⟩))))
          · exact br_f (by decide) (br_f (by decide) (br_f (by decide) (br_f (by decide) (br_t rfl (⟨i16, yw _ (fun z => absurd z e) (fun _ r8 _ => br_f (by decide) (br_f (by decide) (br_f (by decide) (br_f (by decide) (br_t rfl (⟨i16, rfl, same⟩))))))⟩)))))
          · refine br_f (by decide) (br_f (by decide) (br_f (by decide) (br_f (by decide) (br_f (by decide) (br_t rfl (⟨i16, yw _ (fun z => absurd z e) (fun _ r8 _ => br_f (by decide) (br_f (by decide) (br_f (by decide) (br_f (by decide) (br_f (by decide) (br_t rfl (yk_countL h.1.1 (by omega) ⟨?_, same⟩)))))))⟩))))))
            exact hh.1.symm
          · refine br_f (by decide) (br_f (by decide) (br_f (by decide) (br_f (by decide) (br_f (by decide) (br_f (by decide) (br_t rfl (⟨i16, ?_⟩)))))))
            rw [hh.1]
            cases hA : A (3 + (4 * s + j)) with
            | nil =>
              refine br_t rfl (yw _ (fun z => absurd z e) (fun _ r8 hr8 => br_f (by decide) (br_f (by decide) (br_f (by decide) (br_f (by decide) (br_f (by decide) (br_f (by decide) (br_t rfl (?_)))))))))
              rcases hr8 with ⟨_, rfl⟩ | ⟨p, l, x, _⟩
              · exact br_f (by decide) ⟨rfl, same⟩
              · rw [hA] at x; cases x
            | cons p l =>
              have hp : p ∈ A (3 + (4 * s + j)) := by rw [hA]; exact List.mem_cons_self
              have hg0 := (hh.2 0 p (by rw [hA]; rfl)).2
              have c7 := h.1.1.1.2.2.2.2.2.2.1 _ p hr hp
              have gb := (h.1.1.2.2.2.1 ((4 * s + j) / 4) (by omega)).2.2.1
              have e5 : nI (4 * s + j) * 5 = nI ((4 * s + j) * 5) := bn_mul _ 5
              have c5 : (nI ((4 * s + j) * 5)).toNatClampNeg = (4 * s + j) * 5 := nI_clamp (by omega)
              have hy := (h.1.1.1.1 _ p (by omega) hp).1
              have cy : (nI p.2.1).toNatClampNeg = p.2.1 := nI_clamp (by omega)
              rw [hA] at h5
              refine br_f (nI_ne0 (by rw [List.length_cons]; omega) (by omega)) ?_
              rw [e5, c5]
              rw [Nat.add_zero] at hg0
              rw [hg0, bn_255 _ (by omega)]
              refine ⟨vp_in_nI (by omega) (by omega), yw _ (fun z => absurd z e) (fun _ r8 hr8 => br_f (by decide) (br_f (by decide) (br_f (by decide) (br_f (by decide) (br_f (by decide) (br_f (by decide) (br_t rfl (?_))))))))⟩
              rcases hr8 with ⟨x, _⟩ | ⟨p', l', x, rfl⟩
              · rw [hA] at x; cases x
              · rw [hA] at x
                cases x
                rw [cy]
                exact br_t (nI_pos' (by omega)) ⟨vp_in_nI hy (by omega), c7.2, same⟩
theorem i_vc_place {k : Nat} {u : SX} {v : SY} (I : i_Rel k u v) (hk : k + 5 ≤ 2560) (v1 : Int32) (v2 : Int32) : wpX_place (fun r => wpY_place (fun r' => r' = r ∧ i_Rel (k + 5) u v) v v1 v2) u v1 v2 := by
  obtain ⟨A, g, px, st, lf, cd, bg, gv, ob, ol, pb, pn, xp, fh, fl, fa, mk, cb, mi, mb, ml, pa, kb, kl, kc, th, pl, md, cr, hc, hg, hi, ib, il, it, qi, qc, gc, lc, lr, co, fr, en, ma, wr, ta, yp, ki, le, go, la, ps, pd, pt, kw, kh, kf, kz, ky, wh, od, tg, tr, so, bd, wo, be, rfl, rfl, h⟩ := I
  have same : i_Rel (k + 5) (px, st, lf, cd, bg, gv, ob, ol, pb, pn, xp, fh, fl, fa, mk, cb, mi, mb, ml, pa, kb, kl, kc, th, pl, md, cr, hc, hg, hi, ib, il, it, qi, qc, gc, lc, lr, co) (fr, en, ma, wr, st, lf, cd, ta, bg, kc, ob, ol, pb, pn, yp, ki, le, go, mk, cb, mb, ml, la, ps, pd, pt, kw, kh, kf, kz, ky, th, pl, md, cr, gc, lc, lr, wh, od, tg, tr, so, bd, wo, be) := ⟨A, g, px, st, lf, cd, bg, gv, ob, ol, pb, pn, xp, fh, fl, fa, mk, cb, mi, mb, ml, pa, kb, kl, kc, th, pl, md, cr, hc, hg, hi, ib, il, it, qi, qc, gc, lc, lr, co, fr, en, ma, wr, ta, yp, ki, le, go, la, ps, pd, pt, kw, kh, kf, kz, ky, wh, od, tg, tr, so, bd, wo, be, rfl, rfl, bk_S_mono h (by omega)⟩
  unfold wpX_place
  rcases pk_ix v1 (n := 6) (by omega) with a | a | ⟨t, ht, rfl⟩
  · refine xk_isP0 (Or.inl a) (br_t rfl ?_)
    unfold wpY_place
    exact yk_in0 (N := 6) (Or.inl a) (br_t rfl ⟨rfl, same⟩)
  · refine xk_isP0 (Or.inr a) (br_t rfl ?_)
    unfold wpY_place
    exact yk_in0 (N := 6) (Or.inr a) (br_t rfl ⟨rfl, same⟩)
  · have ct : (nI t).toNatClampNeg = t := nI_clamp (by omega)
    have i6 : vp_in (nI t) 6 := pk_in t 6 ht
    refine xk_isPlace (by omega) (fun _ => br_f (by decide) ?_) (fun q => by omega)
    -- both, given what stands first
    have key : ∀ (z0 : Int32), (3 ≤ t → z0 = 0) → (t < 3 → z0 = nI (A t).length) → wX_place_28 (fun r => wpY_place (fun r' => r' = r ∧ i_Rel (k + 5) (px, st, lf, cd, bg, gv, ob, ol, pb, pn, xp, fh, fl, fa, mk, cb, mi, mb, ml, pa, kb, kl, kc, th, pl, md, cr, hc, hg, hi, ib, il, it, qi, qc, gc, lc, lr, co) (fr, en, ma, wr, st, lf, cd, ta, bg, kc, ob, ol, pb, pn, yp, ki, le, go, mk, cb, mb, ml, la, ps, pd, pt, kw, kh, kf, kz, ky, th, pl, md, cr, gc, lc, lr, wh, od, tg, tr, so, bd, wo, be)) (fr, en, ma, wr, st, lf, cd, ta, bg, kc, ob, ol, pb, pn, yp, ki, le, go, mk, cb, mb, ml, la, ps, pd, pt, kw, kh, kf, kz, ky, th, pl, md, cr, gc, lc, lr, wh, od, tg, tr, so, bd, wo, be) (nI t) v2) (nI t) v2 z0 px st lf cd bg gv ob ol pb pn xp fh fl fa mk cb mi mb ml pa kb kl kc th pl md cr hc hg hi ib il it qi qc gc lc lr co := by
      intro z0 hz3 hz0
      have yw : ∀ (post : Int32 → Prop), (∀ z1 : Int32, ((3 ≤ t ∨ A t = []) ∧ z1 = -1) ∨ (t < 3 ∧ ∃ p l, A t = p :: l ∧ z1 = nI p.2.1) → wY_place_25 post (nI t) v2 z1 fr en ma wr st lf cd ta bg kc ob ol pb pn yp ki le go mk cb mb ml la ps pd pt kw kh kf kz ky th pl md cr gc lc lr wh od tg tr so bd wo be) → wpY_place post (fr, en, ma, wr, st, lf, cd, ta, bg, kc, ob, ol, pb, pn, yp, ki, le, go, mk, cb, mb, ml, la, ps, pd, pt, kw, kh, kf, kz, ky, th, pl, md, cr, gc, lc, lr, wh, od, tg, tr, so, bd, wo, be) (nI t) v2 := by
        intro post g
        unfold wpY_place
        refine yk_in1 (N := 6) ht (by omega) (br_f (by decide) (pk_le 3 t (fun q => g (-1) (Or.inl ⟨Or.inl q, rfl⟩)) (fun q => ?_)))
        exact yk_firstAt h.1.1 (by omega) (by omega) (fun e => g (-1) (Or.inl ⟨Or.inr e, rfl⟩)) (fun p l e => g (nI p.2.1) (Or.inr ⟨q, p, l, e, rfl⟩))
      rcases pk_ix v2 (n := 5) (by omega) with q3 | q3 | ⟨w, hw, rfl⟩
      · exact br_t q3 (yw _ (fun z1 _ => br_t q3 ⟨rfl, same⟩))
      · obtain ⟨q4, q5⟩ := iv_big (K := 4) (by omega) q3
        exact br_f q4 (br_t q5 (yw _ (fun z1 _ => br_f q4 (br_t q5 ⟨rfl, same⟩))))
      · have ww : w = 0 ∨ w = 1 ∨ w = 2 ∨ w = 3 ∨ w = 4 := by omega
        rcases ww with rfl | rfl | rfl | rfl | rfl
        · refine br_f (by decide) (br_f (by decide) (br_t rfl (yw _ (fun z1 _ => br_f (by decide) (br_f (by decide) (br_t rfl (pk_le 3 t (fun q => ⟨(hz3 q).symm, same⟩) (fun q => ?_))))))))
          exact yk_countL h.1.1 (by omega) ⟨(hz0 q).symm, same⟩
        · exact br_f (by decide) (br_f (by decide) (br_f (by decide) (br_t rfl (⟨i6, yw _ (fun z1 _ => br_f (by decide) (br_f (by decide) (br_f (by decide) (br_t rfl (⟨i6, rfl, same⟩)))))⟩))))
        · exact br_f (by decide) (br_f (by decide) (br_f (by decide) (br_f (by decide) (br_t rfl (⟨i6, yw _ (fun z1 _ => br_f (by decide) (br_f (by decide) (br_f (by decide) (br_f (by decide) (br_t rfl (⟨i6, rfl, same⟩))))))⟩)))))
        · exact br_f (by decide) (br_f (by decide) (br_f (by decide) (br_f (by decide) (br_f (by decide) (br_t rfl (⟨i6, yw _ (fun z1 _ => br_f (by decide) (br_f (by decide) (br_f (by decide) (br_f (by decide) (br_f (by decide) (br_t rfl (⟨i6, rfl, same⟩)))))))⟩))))))
        · refine br_f (by decide) (br_f (by decide) (br_f (by decide) (br_f (by decide) (br_f (by decide) (br_f (by decide) (br_t rfl (?_)))))))
          by_cases t3 : t < 3
          · have h8 := (dk_len h.1.1).1 t t3
            have hq := h.1.1.2.1 t t3
            rw [hz0 t3]
            cases hA : A t with
            | nil =>
              refine br_t rfl (yw _ (fun z1 hz1 => br_f (by decide) (br_f (by decide) (br_f (by decide) (br_f (by decide) (br_f (by decide) (br_f (by decide) (br_t rfl (?_)))))))))
              rcases hz1 with ⟨_, rfl⟩ | ⟨_, p, l, x, _⟩
              · exact br_f (by decide) ⟨rfl, same⟩
              · rw [hA] at x; cases x
            | cons p l =>
              have hp : p ∈ A t := by rw [hA]; exact List.mem_cons_self
              have qi0 := hq.2 0 p (by rw [hA]; rfl)
              rw [Nat.add_zero] at qi0
              rcases (h.1.1.1.1 t p (by omega) hp).2.2.1 with ⟨_, q, n, tt, o1, o2, o3, o4, o5, o6, o7, o8, o9, o10⟩ | ⟨x, _⟩
              rotate_left
              · exact absurd (Or.inl t3) x
              have e8 : nI t * 8 = nI (t * 8) := bn_mul t 8
              have c8 : (nI (t * 8)).toNatClampNeg = t * 8 := nI_clamp (by omega)
              have cq : (nI q).toNatClampNeg = q := nI_clamp (by omega)
              have hy := (h.1.1.1.1 t p (by omega) hp).1
              have cy : (nI p.2.1).toNatClampNeg = p.2.1 := nI_clamp (by omega)
              rw [hA] at h8
              refine br_f (nI_ne0 (by rw [List.length_cons]; omega) (by omega)) ?_
              rw [e8, c8, qi0, o2, cq, o8]
              refine ⟨vp_in_nI (by omega) (by omega), vp_in_nI (by omega) (by omega), yw _ (fun z1 hz1 => br_f (by decide) (br_f (by decide) (br_f (by decide) (br_f (by decide) (br_f (by decide) (br_f (by decide) (br_t rfl (?_))))))))⟩
              rcases hz1 with ⟨x | x, _⟩ | ⟨_, p', l', x, rfl⟩
              · omega
              · rw [hA] at x; cases x
              · rw [hA] at x
                cases x
                rw [cy, o9]
                exact br_t (nI_pos' (by omega)) ⟨vp_in_nI hy (by omega), rfl, same⟩
          · rw [hz3 (by omega)]
            refine br_t rfl (yw _ (fun z1 hz1 => br_f (by decide) (br_f (by decide) (br_f (by decide) (br_f (by decide) (br_f (by decide) (br_f (by decide) (br_t rfl (?_)))))))))
            rcases hz1 with ⟨_, rfl⟩ | ⟨x, _⟩
            · exact br_f (by decide) ⟨rfl, same⟩
            · omega
    by_cases t3 : t < 3
    · refine br_f (nI_pos (by omega)) (br_f (nI_ge (b := 3) t3 (by omega)) (br_f (by decide) ⟨pk_in t 3 t3, ?_⟩))
      rw [ct]
      exact key _ (fun q => by omega) (fun _ => (h.1.1.2.1 t t3).1)
    · exact xk_isQ0 (Or.inr (nI_le (a := 3) (by omega) (by omega))) (br_t rfl (key 0 (fun _ => rfl) (fun q => absurd q t3)))
end
section
/-! the least that the end of the past can take -/
def bk_low (c : Nat → Nat) (p v : Nat) : Nat → Nat := fun q => if q = p then min (c q) v else c q
def bk_lit (c : Nat → Nat) (p k : Nat) : Nat → Nat := fun q => if p < q ∧ q ≤ p + k then min (c q) (c p + 1 + (q - p)) else c q
theorem bk_lit_p (c : Nat → Nat) (p k : Nat) : bk_lit c p k p = c p := if_neg (by omega)
theorem bk_lit_0 (c : Nat → Nat) (p : Nat) : bk_lit c p 0 = c := by
  funext q
  exact if_neg (by omega)
theorem bk_lit_s (c : Nat → Nat) (p k : Nat) : bk_low (bk_lit c p k) (p + k + 1) (c p + 1 + (k + 1)) = bk_lit c p (k + 1) := by
  funext q
  unfold bk_low bk_lit
  by_cases e : q = p + k + 1
  · have a1 : ¬ (p < q ∧ q ≤ p + k) := by omega
    have a2 : p < q ∧ q ≤ p + (k + 1) := by omega
    have a3 : q - p = k + 1 := by omega
    rw [if_pos e, if_neg a1, if_pos a2, a3]
  · rw [if_neg e]
    by_cases h : p < q ∧ q ≤ p + k
    · have a2 : p < q ∧ q ≤ p + (k + 1) := by omega
      rw [if_pos h, if_pos a2]
    · have a2 : ¬ (p < q ∧ q ≤ p + (k + 1)) := by omega
      rw [if_neg h, if_neg a2]
def bk_c0 (o v : Nat) : Nat → Nat := fun q => if q = o then 0 else v
theorem bk_c0_a (o v : Nat) : bk_c0 o v o = 0 := if_pos rfl
theorem bk_c0_b {o v q : Nat} (h : q ≠ o) : bk_c0 o v q = v := if_neg h
theorem bk_lit_c0 {o v n q : Nat} (hv : 65 ≤ v) (hn : n ≤ 64) (a : o ≤ q) (b : q ≤ o + n) : bk_lit (bk_c0 o v) (o + 0) n q = (if q = o then 0 else 1 + (q - o)) := by
  unfold bk_lit
  rw [Nat.add_zero, bk_c0_a]
  by_cases e : q = o
  · have a1 : ¬ (o < q ∧ q ≤ o + n) := by omega
    rw [if_neg a1, if_pos e, e, bk_c0_a]
  · have a1 : o < q ∧ q ≤ o + n := by omega
    rw [if_pos a1, if_neg e, bk_c0_b e]
    omega
def bk_R (o e : Nat) (c : Nat → Nat) (co : Nat → Int32) : Prop := ∀ q, o ≤ q → q ≤ e → co q = nI (c q) ∧ c q ≤ 1000
theorem bk_R_eq {o e : Nat} {c c' : Nat → Nat} {co : Nat → Int32} (h : bk_R o e c co) (he : ∀ q, o ≤ q → q ≤ e → c q = c' q) : bk_R o e c' co := by
  intro q a b
  rw [← he q a b]
  exact h q a b
theorem bk_R_low {o e p v : Nat} {c : Nat → Nat} {co : Nat → Int32} (h : bk_R o e c co) : (c p ≤ v → bk_R o e (bk_low c p v) co) ∧ (v < c p → bk_R o e (bk_low c p v) (upd co p (nI v))) := by
  constructor
  · intro l q a b
    obtain ⟨x, y⟩ := h q a b
    unfold bk_low
    by_cases e1 : q = p
    · rw [if_pos e1, Nat.min_eq_left (by rw [e1]; exact l)]; exact ⟨x, y⟩
    · rw [if_neg e1]; exact ⟨x, y⟩
  · intro l q a b
    obtain ⟨x, y⟩ := h q a b
    unfold bk_low
    by_cases e1 : q = p
    · rw [e1] at y
      rw [if_pos e1, e1, pk_us, Nat.min_eq_right (by omega)]; exact ⟨rfl, by omega⟩
    · rw [if_neg e1, pk_un e1]; exact ⟨x, y⟩
theorem bk_R_y {o e j : Nat} {v : Int32} {c : Nat → Nat} {be : Nat → Int32} (h : bk_R o e c (upd (fun q => be (q - o)) (o + j) v)) : bk_R o e c (fun q => upd be j v (q - o)) := by
  intro q a b
  have w := h q a b
  show upd be j v (q - o) = _ ∧ _
  by_cases e1 : q = o + j
  · have e2 : q - o = j := by omega
    rw [e2, pk_us]
    rw [e1, pk_us] at w
    rw [e1]
    exact w
  · have e2 : q - o ≠ j := by omega
    rw [pk_un e1] at w
    rw [pk_un e2]
    exact w
theorem bk_Cp_ex (w : Nat → Int32) (e p : Nat) (S : Nat → Prop) (c0 : Nat → Nat) : ∃ c, bk_Cp w e p S c0 c := by
  classical
  exact ⟨fun q => if (∃ f, S f ∧ bk_M w e p f q) then min (c0 q) (c0 p + 2) else c0 q, fun q => ⟨fun h => if_pos h, fun h => if_neg h⟩⟩
theorem bk_Cp_congr {w : Nat → Int32} {e p : Nat} {S T : Nat → Prop} {c0 c : Nat → Nat} (h : bk_Cp w e p S c0 c) (st : ∀ f, S f ↔ T f) : bk_Cp w e p T c0 c := by
  have : S = T := funext fun f => propext (st f)
  rw [← this]
  exact h
theorem bk_Cq_lift {w : Nat → Int32} {e p f z z' : Nat} {S : Nat → Prop} {c0 c : Nat → Nat} (h : bk_Cq w e p S f z c0 c) (hz : z ≤ p + 1) (hz' : z' ≤ p + 1) : bk_Cq w e p S f z' c0 c := by
  intro q
  refine ⟨?_, fun n => (h q).2 ?_⟩
  · rintro (x | ⟨x, y⟩)
    · exact (h q).1 (Or.inl x)
    · have := x.1; omega
  · rintro (x | ⟨x, y⟩)
    · exact n (Or.inl x)
    · have := x.1; omega
section SHORT
variable {B : Nat} {A : Nat → List bk_E} {g : Nat → Nat} {st lf cd bg gv ob ol pb pn xp fh fl fa mk cb mi mb ml pa kb kl kc th pl md cr hc hg hi ib il it qi qc gc lc lr co ta yp ki le go la ps pd pt kw kh kf kz ky wh od tg tr so bd wo be : Nat → Int32} {px fr en ma wr : Int32}
theorem xk_lower {post : SX → Prop} {o e p v : Nat} {c : Nat → Nat} (h : bk_R o e c co) (hp : o ≤ p) (hpe : p ≤ e) (he : e ≤ 64) (hv : v ≤ 10000) (k : ∀ co, bk_R o e (bk_low c p v) co → post (px, st, lf, cd, bg, gv, ob, ol, pb, pn, xp, fh, fl, fa, mk, cb, mi, mb, ml, pa, kb, kl, kc, th, pl, md, cr, hc, hg, hi, ib, il, it, qi, qc, gc, lc, lr, co)) : wpX_lowerCost post (px, st, lf, cd, bg, gv, ob, ol, pb, pn, xp, fh, fl, fa, mk, cb, mi, mb, ml, pa, kb, kl, kc, th, pl, md, cr, hc, hg, hi, ib, il, it, qi, qc, gc, lc, lr, co) (nI p) (nI v) := by
  have cp : (nI p).toNatClampNeg = p := nI_clamp (by omega)
  have ip : vp_in (nI p) 65 := pk_in p 65 (by omega)
  obtain ⟨x, y⟩ := h p hp hpe
  unfold wpX_lowerCost
  refine ⟨ip, ?_⟩
  rw [cp, x]
  exact pk_le (c p) v (fun z => k co ((bk_R_low h).1 z)) (fun z => ⟨ip, nm_e (k _ ((bk_R_low h).2 z))⟩)
theorem yk_better {post : SY → Prop} {o e j v : Nat} {c : Nat → Nat} (h : bk_R o e c (fun q => be (q - o))) (hj : o + j ≤ e) (he : e ≤ 64) (hv : v ≤ 10000) (k : ∀ be, bk_R o e (bk_low c (o + j) v) (fun q => be (q - o)) → post (fr, en, ma, wr, st, lf, cd, ta, bg, kc, ob, ol, pb, pn, yp, ki, le, go, mk, cb, mb, ml, la, ps, pd, pt, kw, kh, kf, kz, ky, th, pl, md, cr, gc, lc, lr, wh, od, tg, tr, so, bd, wo, be)) : wpY_better post (fr, en, ma, wr, st, lf, cd, ta, bg, kc, ob, ol, pb, pn, yp, ki, le, go, mk, cb, mb, ml, la, ps, pd, pt, kw, kh, kf, kz, ky, th, pl, md, cr, gc, lc, lr, wh, od, tg, tr, so, bd, wo, be) (nI j) (nI v) := by
  have cp : (nI j).toNatClampNeg = j := nI_clamp (by omega)
  have ip : vp_in (nI j) 65 := pk_in j 65 (by omega)
  obtain ⟨x, y⟩ := h (o + j) (by omega) hj
  have ej : o + j - o = j := by omega
  dsimp only at x
  rw [ej] at x
  unfold wpY_better
  refine ⟨ip, ?_⟩
  rw [cp, x]
  exact pk_le (c (o + j)) v (fun z => k be ((bk_R_low h).1 z)) (fun z => ⟨ip, nm_e (k _ (bk_R_y ((bk_R_low h).2 z)))⟩)
theorem xk_lits {post : SX → Prop} {o e p : Nat} {c : Nat → Nat} (hop : o ≤ p) (hpe : p ≤ e) (he : e ≤ 64) (k : ∀ co, bk_R o e (bk_lit c p (e - p)) co → post (px, st, lf, cd, bg, gv, ob, ol, pb, pn, xp, fh, fl, fa, mk, cb, mi, mb, ml, pa, kb, kl, kc, th, pl, md, cr, hc, hg, hi, ib, il, it, qi, qc, gc, lc, lr, co)) :
    ∀ (f i : Nat) (co : Nat → Int32), bk_R o e (bk_lit c p i) co → i ≤ e - p → e - p - i < f → wX_tryLiterals_4 post (nI p) (nI e) f (nI (p + i + 1)) px st lf cd bg gv ob ol pb pn xp fh fl fa mk cb mi mb ml pa kb kl kc th pl md cr hc hg hi ib il it qi qc gc lc lr co
  | 0, i, co, _, _, h => by omega
  | f + 1, i, co, h, h1, h2 => by
    have ca : (nI p).toNatClampNeg = p := nI_clamp (by omega)
    obtain ⟨x, y⟩ := h p hop hpe
    rw [bk_lit_p] at x y
    by_cases l : i = e - p
    · rw [l] at h
      exact br_t (nI_lt (by omega) (by omega)) (k co h)
    · refine br_f (nI_nlt (by omega) (by omega)) ⟨pk_in p 65 (by omega), ?_⟩
      have ev : co p + 1 + nI (p + i + 1) - nI p = nI (c p + 1 + (i + 1)) := by
        rw [x, nI_1, nI_add, pk_sub (by omega)]
        exact congrArg nI (by omega)
      rw [ca, ev]
      refine xk_lower (c := bk_lit c p i) (o := o) (e := e) h (by omega) (by omega) he (by omega) (fun co h' => ?_)
      rw [bk_lit_s] at h'
      exact nm_r (nI_1 _) (xk_lits hop hpe he k f (i + 1) co h' (by omega) (by omega))
theorem xk_tryLit {post : SX → Prop} {o e p : Nat} {c : Nat → Nat} (h : bk_R o e c co) (hop : o ≤ p) (hpe : p ≤ e) (he : e ≤ 64) (k : ∀ co, bk_R o e (bk_lit c p (e - p)) co → post (px, st, lf, cd, bg, gv, ob, ol, pb, pn, xp, fh, fl, fa, mk, cb, mi, mb, ml, pa, kb, kl, kc, th, pl, md, cr, hc, hg, hi, ib, il, it, qi, qc, gc, lc, lr, co)) : wpX_tryLiterals post (px, st, lf, cd, bg, gv, ob, ol, pb, pn, xp, fh, fl, fa, mk, cb, mi, mb, ml, pa, kb, kl, kc, th, pl, md, cr, hc, hg, hi, ib, il, it, qi, qc, gc, lc, lr, co) (nI p) (nI e) := by
  unfold wpX_tryLiterals
  exact nm_r (nI_1 _) ⟨e - p + 1, xk_lits hop hpe he k _ 0 co (by rw [bk_lit_0]; exact h) (by omega) (by omega)⟩
theorem xk_cop18 {post : SX → Prop} {J : Int32 → Int32 → (Nat → Int32) → (Nat → Int32) → (Nat → Int32) → (Nat → Int32) → (Nat → Int32) → (Nat → Int32) → (Nat → Int32) → (Nat → Int32) → (Nat → Int32) → (Nat → Int32) → (Nat → Int32) → (Nat → Int32) → (Nat → Int32) → (Nat → Int32) → (Nat → Int32) → (Nat → Int32) → (Nat → Int32) → (Nat → Int32) → (Nat → Int32) → (Nat → Int32) → (Nat → Int32) → (Nat → Int32) → (Nat → Int32) → (Nat → Int32) → (Nat → Int32) → (Nat → Int32) → (Nat → Int32) → (Nat → Int32) → (Nat → Int32) → (Nat → Int32) → (Nat → Int32) → (Nat → Int32) → (Nat → Int32) → (Nat → Int32) → (Nat → Int32) → (Nat → Int32) → (Nat → Int32) → (Nat → Int32) → Prop} {o e p fm s : Nat} {c0 : Nat → Nat} (hs : s < 4) (hop : o ≤ p) (hpe : p < e) (he : e ≤ 64) (hfm : fm < p)
    (k : ∀ (co : Nat → Int32) (c : Nat → Nat), bk_R o e c co → bk_Cp (fun j => pb (64 * s + j)) e p (fun f => f < fm + 1) c0 c → J (nI (fm + 1)) px st lf cd bg gv ob ol pb pn xp fh fl fa mk cb mi mb ml pa kb kl kc th pl md cr hc hg hi ib il it qi qc gc lc lr co) :
    ∀ (f m : Nat) (co : Nat → Int32) (c : Nat → Nat), m ≤ 33 → p + m ≤ e → bk_R o e c co → bk_Cq (fun j => pb (64 * s + j)) e p (fun f => f < fm) fm (p + m) c0 c → (∀ i, i < m → pb (64 * s + (fm + i)) = pb (64 * s + (p + i))) → 34 - m < f →
      wX_tryCopies_18 post J (nI p) (nI e) (nI (64 * s)) (nI fm) f (nI (m + 1)) px st lf cd bg gv ob ol pb pn xp fh fl fa mk cb mi mb ml pa kb kl kc th pl md cr hc hg hi ib il it qi qc gc lc lr co
  | 0, m, co, c, _, _, _, _, _, h => by omega
  | f + 1, m, co, c, h1, h2, hR, hC, hm, h3 => by
    have cF : (∀ q, bk_M (fun j => pb (64 * s + j)) e p fm q → q ≤ p + m) → J (nI (fm + 1)) px st lf cd bg gv ob ol pb pn xp fh fl fa mk cb mi mb ml pa kb kl kc th pl md cr hc hg hi ib il it qi qc gc lc lr co := fun hz => k co c hR (bk_Cq_out hC hz (fun f' => by show f' < fm + 1 ↔ (f' < fm ∨ f' = fm); omega))
    by_cases g1 : m = 33
    · exact br_t (nI_lt (a := 33) (by omega) (by omega)) (nm_r (nI_1 fm) (cF (fun q M => by have := M.2.1; omega)))
    refine br_f (nI_nlt (a := 33) (by omega) (by omega)) ?_
    have e2 : nI p + nI (m + 1) = nI (p + (m + 1)) := nI_add _ _
    rw [e2]
    by_cases g2 : e < p + (m + 1)
    · exact br_t (nI_lt g2 (by omega)) (nm_r (nI_1 fm) (cF (fun q M => by have := M.2.2.1; omega)))
    refine br_f (nI_nlt (by omega) (by omega)) ?_
    have e3 : nI (64 * s) + nI fm + nI (m + 1) - 1 = nI (64 * s + (fm + m)) := by
      rw [nI_add, nI_add]
      exact (pk_sub (a := 64 * s + fm + (m + 1)) (b := 1) (by omega)).trans (congrArg nI (by omega))
    have e4 : nI (64 * s) + nI p + nI (m + 1) - 1 = nI (64 * s + (p + m)) := by
      rw [nI_add, nI_add]
      exact (pk_sub (a := 64 * s + p + (m + 1)) (b := 1) (by omega)).trans (congrArg nI (by omega))
    have c3 : (nI (64 * s + (fm + m))).toNatClampNeg = 64 * s + (fm + m) := nI_clamp (by omega)
    have c4 : (nI (64 * s + (p + m))).toNatClampNeg = 64 * s + (p + m) := nI_clamp (by omega)
    rw [e3, e4, c3, c4]
    refine ⟨vp_in_nI (by omega) (by omega), vp_in_nI (by omega) (by omega), ?_⟩
    by_cases g3 : pb (64 * s + (fm + m)) = pb (64 * s + (p + m))
    · have hm' : ∀ i, i < m + 1 → pb (64 * s + (fm + i)) = pb (64 * s + (p + i)) := by
        intro i h5
        by_cases e5 : i = m
        · rw [e5]; exact g3
        · exact hm i (by omega)
      refine br_t g3 ?_
      by_cases g4 : m = 0
      · exact br_t (nI_lt (b := 2) (by omega) (by omega)) (nm_r (nI_1 _) (xk_cop18 hs hop hpe he hfm k f (m + 1) co c (by omega) (by omega) hR (bk_Cq_lift hC (by omega) (by omega)) hm' (by omega)))
      · refine br_f (nI_nlt (b := 2) (by omega) (by omega)) ⟨pk_in p 65 (by omega), ?_⟩
        have ca : (nI p).toNatClampNeg = p := nI_clamp (by omega)
        obtain ⟨x, y⟩ := hR p hop (by omega)
        have ec : c p = c0 p := (hC p).2 (by rintro (⟨f', _, M⟩ | ⟨M, _⟩) <;> (have := M.1; omega))
        rw [ec] at x y
        have ev : co p + 2 = nI (c0 p + 2) := by rw [x]; exact nI_add _ 2
        rw [ca, ev]
        refine xk_lower (c := c) (o := o) (e := e) hR (by omega) (by omega) he (by omega) (fun co h' => nm_r (nI_1 _) (xk_cop18 hs hop hpe he hfm k f (m + 1) co _ (by omega) (by omega) h' (bk_Cq_step (z := p + m) hC ?_ ?_ ?_) hm' (by omega)))
        · exact ⟨by omega, by omega, by omega, fun i h5 => hm' i (by omega)⟩
        · exact if_pos rfl
        · exact fun q n => if_neg n
    · refine br_f g3 (nm_r (nI_1 fm) (cF (fun q M => ?_)))
      by_cases g5 : q ≤ p + m
      · exact g5
      · exact absurd (M.2.2.2 m (by omega)) g3
theorem xk_cop9 {post : SX → Prop} {o e p s : Nat} {c0 : Nat → Nat} (hs : s < 4) (hop : o ≤ p) (hpe : p < e) (he : e ≤ 64)
    (k : ∀ (co : Nat → Int32) (c : Nat → Nat), bk_R o e c co → bk_Cp (fun j => pb (64 * s + j)) e p (fun f => f < p) c0 c → post (px, st, lf, cd, bg, gv, ob, ol, pb, pn, xp, fh, fl, fa, mk, cb, mi, mb, ml, pa, kb, kl, kc, th, pl, md, cr, hc, hg, hi, ib, il, it, qi, qc, gc, lc, lr, co)) :
    ∀ (f fm : Nat) (co : Nat → Int32) (c : Nat → Nat), fm ≤ p → bk_R o e c co → bk_Cp (fun j => pb (64 * s + j)) e p (fun f => f < fm) c0 c → p - fm < f → wX_tryCopies_9 post (nI p) (nI e) (nI (64 * s)) f (nI fm) px st lf cd bg gv ob ol pb pn xp fh fl fa mk cb mi mb ml pa kb kl kc th pl md cr hc hg hi ib il it qi qc gc lc lr co
  | 0, fm, co, c, _, _, _, h => by omega
  | f + 1, fm, co, c, h1, hR, hC, h2 => by
    by_cases l : fm = p
    · rw [l] at hC
      exact br_t (nI_le (by omega) (by omega)) (k co c hR hC)
    · exact br_f (nI_ge (by omega) (by omega)) ⟨36, xk_cop18 (m := 0) hs hop hpe he (by omega) (fun co c a b => xk_cop9 hs hop hpe he k f (fm + 1) co c (by omega) a b (by omega)) 36 co c (by omega) (by omega) hR (bk_Cq_in hC (by omega)) (fun i h => absurd h (by omega)) (by omega)⟩
theorem xk_tryCop {post : SX → Prop} {o e p s : Nat} {c c1 : Nat → Nat} (h : bk_R o e c co) (hs : s < 4) (hop : o ≤ p) (hpe : p < e) (he : e ≤ 64) (hc1 : bk_Cp (fun j => pb (64 * s + j)) e p (fun f => f < p) c c1)
    (k : ∀ co, bk_R o e c1 co → post (px, st, lf, cd, bg, gv, ob, ol, pb, pn, xp, fh, fl, fa, mk, cb, mi, mb, ml, pa, kb, kl, kc, th, pl, md, cr, hc, hg, hi, ib, il, it, qi, qc, gc, lc, lr, co)) : wpX_tryCopies post (px, st, lf, cd, bg, gv, ob, ol, pb, pn, xp, fh, fl, fa, mk, cb, mi, mb, ml, pa, kb, kl, kc, th, pl, md, cr, hc, hg, hi, ib, il, it, qi, qc, gc, lc, lr, co) (nI s) (nI p) (nI e) := by
  unfold wpX_tryCopies
  have e1 : nI s * 64 = nI (64 * s) := by rw [bn_mul, Nat.mul_comm]
  refine nm_r e1 ⟨p + 1, xk_cop9 (c0 := c) hs hop hpe he (fun co c' a b => ?_) (p + 1) 0 co c (by omega) h (bk_Cp_0 (fun f => by show ¬ f < 0; omega)) (by omega)⟩
  rw [bk_Cp_uniq b hc1 (fun _ => Iff.rfl)] at a
  exact k co a
theorem yk_cop129 {post : Int32 → SY → Prop} {J68 J116 : Int32 → Int32 → Int32 → Int32 → Int32 → (Nat → Int32) → (Nat → Int32) → (Nat → Int32) → (Nat → Int32) → (Nat → Int32) → (Nat → Int32) → (Nat → Int32) → (Nat → Int32) → (Nat → Int32) → (Nat → Int32) → (Nat → Int32) → (Nat → Int32) → (Nat → Int32) → (Nat → Int32) → (Nat → Int32) → (Nat → Int32) → (Nat → Int32) → (Nat → Int32) → (Nat → Int32) → (Nat → Int32) → (Nat → Int32) → (Nat → Int32) → (Nat → Int32) → (Nat → Int32) → (Nat → Int32) → (Nat → Int32) → (Nat → Int32) → (Nat → Int32) → (Nat → Int32) → (Nat → Int32) → (Nat → Int32) → (Nat → Int32) → (Nat → Int32) → (Nat → Int32) → (Nat → Int32) → (Nat → Int32) → (Nat → Int32) → (Nat → Int32) → (Nat → Int32) → (Nat → Int32) → (Nat → Int32) → (Nat → Int32) → Prop} {o n a d s : Nat} {c0 : Nat → Nat} (hs : s < 4) (hn : o + n ≤ 64) (han : a < n) (hd1 : 1 ≤ d) (hd : d ≤ o + a)
    (k : ∀ (be : Nat → Int32) (c : Nat → Nat), bk_R o (o + n) c (fun q => be (q - o)) → bk_Cp (fun j => pb (64 * s + j)) (o + n) (o + a) (fun f => f < o + a ∧ o + a - f < d + 1) c0 c → J116 (nI (d + 1)) fr en ma wr st lf cd ta bg kc ob ol pb pn yp ki le go mk cb mb ml la ps pd pt kw kh kf kz ky th pl md cr gc lc lr wh od tg tr so bd wo be) :
    ∀ (f m : Nat) (be : Nat → Int32) (c : Nat → Nat), m ≤ 33 → a + m ≤ n → bk_R o (o + n) c (fun q => be (q - o)) → bk_Cq (fun j => pb (64 * s + j)) (o + n) (o + a) (fun f => f < o + a ∧ o + a - f < d) (o + a - d) (o + a + m) c0 c → (∀ i, i < m → pb (64 * s + (o + a - d + i)) = pb (64 * s + (o + a + i))) → 33 - m < f →
      wY_shortest_129 post J68 J116 (nI n) (nI (64 * s)) (nI o) (nI a) (nI d) f (nI m) fr en ma wr st lf cd ta bg kc ob ol pb pn yp ki le go mk cb mb ml la ps pd pt kw kh kf kz ky th pl md cr gc lc lr wh od tg tr so bd wo be
  | 0, m, be, c, _, _, _, _, _, h => by omega
  | f + 1, m, be, c, h1, h2, hR, hC, hm, h3 => by
    have cF : (∀ q, bk_M (fun j => pb (64 * s + j)) (o + n) (o + a) (o + a - d) q → q ≤ o + a + m) → J116 (nI (d + 1)) fr en ma wr st lf cd ta bg kc ob ol pb pn yp ki le go mk cb mb ml la ps pd pt kw kh kf kz ky th pl md cr gc lc lr wh od tg tr so bd wo be := fun hz => k be c hR (bk_Cq_out hC hz (fun f' => by show (f' < o + a ∧ o + a - f' < d + 1) ↔ ((f' < o + a ∧ o + a - f' < d) ∨ f' = o + a - d); omega))
    by_cases g1 : m = 33
    · exact br_t (nI_le (a := 33) (by omega) (by omega)) (nm_r (nI_1 d) (cF (fun q M => by have := M.2.1; omega)))
    refine br_f (nI_ge (b := 33) (by omega) (by omega)) ?_
    have e2 : nI a + nI m = nI (a + m) := nI_add _ _
    rw [e2]
    by_cases g2 : n ≤ a + m
    · exact br_t (nI_le g2 (by omega)) (nm_r (nI_1 d) (cF (fun q M => by have := M.2.2.1; omega)))
    refine br_f (nI_ge (by omega) (by omega)) ?_
    have e3 : nI (64 * s) + nI o + nI a + nI m = nI (64 * s + (o + a + m)) := by
      rw [nI_add, nI_add, nI_add]
      exact congrArg nI (by omega)
    have e4 : nI (64 * s + (o + a + m)) - nI d = nI (64 * s + (o + a - d + m)) := (pk_sub (by omega)).trans (congrArg nI (by omega))
    have c3 : (nI (64 * s + (o + a - d + m))).toNatClampNeg = 64 * s + (o + a - d + m) := nI_clamp (by omega)
    have c4 : (nI (64 * s + (o + a + m))).toNatClampNeg = 64 * s + (o + a + m) := nI_clamp (by omega)
    rw [e3, e4, c3, c4]
    refine ⟨vp_in_nI (by omega) (by omega), vp_in_nI (by omega) (by omega), ?_⟩
    by_cases g3 : pb (64 * s + (o + a + m)) = pb (64 * s + (o + a - d + m))
    · have hm' : ∀ i, i < m + 1 → pb (64 * s + (o + a - d + i)) = pb (64 * s + (o + a + i)) := by
        intro i h5
        by_cases e5 : i = m
        · rw [e5]; exact g3.symm
        · exact hm i (by omega)
      refine br_t g3 (nm_r (nI_1 m) ?_)
      by_cases g4 : m = 0
      · exact br_t (nI_le (b := 1) (by omega) (by omega)) (yk_cop129 hs hn han hd1 hd k f (m + 1) be c (by omega) (by omega) hR (bk_Cq_lift hC (by omega) (by omega)) hm' (by omega))
      · refine br_f (nI_ge (a := 1) (by omega) (by omega)) ⟨pk_in a 65 (by omega), ?_⟩
        have ca : (nI a).toNatClampNeg = a := nI_clamp (by omega)
        obtain ⟨x, y⟩ := hR (o + a) (by omega) (by omega)
        have ec : c (o + a) = c0 (o + a) := (hC (o + a)).2 (by rintro (⟨f', _, M⟩ | ⟨M, _⟩) <;> (have := M.1; omega))
        have ej : o + a - o = a := by omega
        dsimp only at x
        rw [ec] at x y
        rw [ej] at x
        have ev : be a + 2 = nI (c0 (o + a) + 2) := by rw [x]; exact nI_add _ 2
        have e6 : nI a + nI (m + 1) = nI (a + (m + 1)) := nI_add _ _
        rw [ca, ev, e6]
        refine yk_better (c := c) (o := o) (e := o + n) hR (by omega) hn (by omega) (fun be h' => yk_cop129 hs hn han hd1 hd k f (m + 1) be _ (by omega) (by omega) h' (bk_Cq_step (z := o + a + m) hC ?_ ?_ ?_) hm' (by omega))
        · exact ⟨by omega, by omega, by omega, fun i h5 => hm' i (by omega)⟩
        · exact if_pos (by omega)
        · exact fun q n => if_neg (by omega)
    · refine br_f g3 (nm_r (nI_1 d) (cF (fun q M => ?_)))
      by_cases g5 : q ≤ o + a + m
      · exact g5
      · exact absurd (M.2.2.2 m (by omega)).symm g3
theorem yk_cop116 {post : Int32 → SY → Prop} {J68 : Int32 → Int32 → Int32 → Int32 → Int32 → (Nat → Int32) → (Nat → Int32) → (Nat → Int32) → (Nat → Int32) → (Nat → Int32) → (Nat → Int32) → (Nat → Int32) → (Nat → Int32) → (Nat → Int32) → (Nat → Int32) → (Nat → Int32) → (Nat → Int32) → (Nat → Int32) → (Nat → Int32) → (Nat → Int32) → (Nat → Int32) → (Nat → Int32) → (Nat → Int32) → (Nat → Int32) → (Nat → Int32) → (Nat → Int32) → (Nat → Int32) → (Nat → Int32) → (Nat → Int32) → (Nat → Int32) → (Nat → Int32) → (Nat → Int32) → (Nat → Int32) → (Nat → Int32) → (Nat → Int32) → (Nat → Int32) → (Nat → Int32) → (Nat → Int32) → (Nat → Int32) → (Nat → Int32) → (Nat → Int32) → (Nat → Int32) → (Nat → Int32) → (Nat → Int32) → (Nat → Int32) → (Nat → Int32) → (Nat → Int32) → Prop} {o n a s : Nat} {c0 : Nat → Nat} (hs : s < 4) (hn : o + n ≤ 64) (han : a < n)
    (k : ∀ (be : Nat → Int32) (c : Nat → Nat), bk_R o (o + n) c (fun q => be (q - o)) → bk_Cp (fun j => pb (64 * s + j)) (o + n) (o + a) (fun f => f < o + a) c0 c → J68 (nI (a + 1)) fr en ma wr st lf cd ta bg kc ob ol pb pn yp ki le go mk cb mb ml la ps pd pt kw kh kf kz ky th pl md cr gc lc lr wh od tg tr so bd wo be) :
    ∀ (f d : Nat) (be : Nat → Int32) (c : Nat → Nat), 1 ≤ d → d ≤ o + a + 1 → bk_R o (o + n) c (fun q => be (q - o)) → bk_Cp (fun j => pb (64 * s + j)) (o + n) (o + a) (fun f => f < o + a ∧ o + a - f < d) c0 c → o + a + 1 - d < f →
      wY_shortest_116 post J68 (nI n) (nI (64 * s)) (nI o) (nI a) f (nI d) fr en ma wr st lf cd ta bg kc ob ol pb pn yp ki le go mk cb mb ml la ps pd pt kw kh kf kz ky th pl md cr gc lc lr wh od tg tr so bd wo be
  | 0, d, be, c, _, _, _, _, h => by omega
  | f + 1, d, be, c, h1, h2, hR, hC, h3 => by
    have e2 : nI o + nI a = nI (o + a) := nI_add _ _
    by_cases l : d = o + a + 1
    · refine br_t ?_ (nm_r (nI_1 a) (k be c hR (bk_Cp_congr hC (fun f' => by show (f' < o + a ∧ o + a - f' < d) ↔ f' < o + a; omega))))
      rw [e2]
      exact nI_lt (by omega) (by omega)
    · refine br_f ?_ ⟨35, yk_cop129 (J68 := J68) (m := 0) hs hn han h1 (by omega) (fun be c x y => yk_cop116 hs hn han k f (d + 1) be c (by omega) (by omega) x y (by omega)) 35 be c (by omega) (by omega) hR (bk_Cq_in hC (by omega)) (fun i h => absurd h (by omega)) (by omega)⟩
      rw [e2]
      exact nI_nlt (by omega) (by omega)
theorem yk_lits77 {post : Int32 → SY → Prop} {J68 : Int32 → Int32 → Int32 → Int32 → Int32 → (Nat → Int32) → (Nat → Int32) → (Nat → Int32) → (Nat → Int32) → (Nat → Int32) → (Nat → Int32) → (Nat → Int32) → (Nat → Int32) → (Nat → Int32) → (Nat → Int32) → (Nat → Int32) → (Nat → Int32) → (Nat → Int32) → (Nat → Int32) → (Nat → Int32) → (Nat → Int32) → (Nat → Int32) → (Nat → Int32) → (Nat → Int32) → (Nat → Int32) → (Nat → Int32) → (Nat → Int32) → (Nat → Int32) → (Nat → Int32) → (Nat → Int32) → (Nat → Int32) → (Nat → Int32) → (Nat → Int32) → (Nat → Int32) → (Nat → Int32) → (Nat → Int32) → (Nat → Int32) → (Nat → Int32) → (Nat → Int32) → (Nat → Int32) → (Nat → Int32) → (Nat → Int32) → (Nat → Int32) → (Nat → Int32) → (Nat → Int32) → (Nat → Int32) → (Nat → Int32) → Prop} {o n a s : Nat} {c : Nat → Nat} (hn : o + n ≤ 64) (han : a < n)
    (k : ∀ be, bk_R o (o + n) (bk_lit c (o + a) (n - a)) (fun q => be (q - o)) → ∃ m : Nat, wY_shortest_116 post J68 (nI n) (nI (64 * s)) (nI o) (nI a) m 1 fr en ma wr st lf cd ta bg kc ob ol pb pn yp ki le go mk cb mb ml la ps pd pt kw kh kf kz ky th pl md cr gc lc lr wh od tg tr so bd wo be) :
    ∀ (f i : Nat) (be : Nat → Int32), bk_R o (o + n) (bk_lit c (o + a) i) (fun q => be (q - o)) → i ≤ n - a → n - a - i < f → wY_shortest_77 post J68 (nI n) (nI (64 * s)) (nI o) (nI a) f (nI (i + 1)) fr en ma wr st lf cd ta bg kc ob ol pb pn yp ki le go mk cb mb ml la ps pd pt kw kh kf kz ky th pl md cr gc lc lr wh od tg tr so bd wo be
  | 0, i, be, _, _, h => by omega
  | f + 1, i, be, h, h1, h2 => by
    have e2 : nI n - nI a = nI (n - a) := pk_sub (by omega)
    have ca : (nI a).toNatClampNeg = a := nI_clamp (by omega)
    obtain ⟨x, y⟩ := h (o + a) (by omega) (by omega)
    have ej : o + a - o = a := by omega
    dsimp only at x
    rw [bk_lit_p] at x y
    rw [ej] at x
    by_cases l : i = n - a
    · rw [l] at h
      refine br_t ?_ (k be h)
      rw [e2]
      exact nI_lt (by omega) (by omega)
    · refine br_f ?_ ⟨pk_in a 65 (by omega), ?_⟩
      · rw [e2]
        exact nI_nlt (by omega) (by omega)
      have ev : be a + 1 + nI (i + 1) = nI (c (o + a) + 1 + (i + 1)) := by
        rw [x, nI_1, nI_add]
      have e6 : nI a + nI (i + 1) = nI (a + (i + 1)) := nI_add _ _
      rw [ca, ev, e6]
      refine yk_better (c := bk_lit c (o + a) i) (o := o) (e := o + n) h (by omega) hn (by omega) (fun be h' => ?_)
      have e7 : o + (a + (i + 1)) = o + a + i + 1 := by omega
      rw [e7, bk_lit_s] at h'
      exact nm_r (nI_1 _) (yk_lits77 hn han k f (i + 1) be h' (by omega) (by omega))
theorem lk_short {s o n : Nat} (hs : s < 4) (hn : o + n ≤ 64) : ∀ (N a : Nat) (cX cY c : Nat → Nat), a + N = n → (∀ q, o ≤ q → q ≤ o + n → bk_lit cX (o + a) N q = c q ∧ bk_lit cY (o + a) N q = c q) → ∃ cF : Nat → Nat, (c o = 0 → cF o = 0) ∧
    (∀ (post : Int32 → SX → Prop) (co : Nat → Int32), bk_R o (o + n) cX co → (∀ co, bk_R o (o + n) cF co → post (nI (cF (o + n))) (px, st, lf, cd, bg, gv, ob, ol, pb, pn, xp, fh, fl, fa, mk, cb, mi, mb, ml, pa, kb, kl, kc, th, pl, md, cr, hc, hg, hi, ib, il, it, qi, qc, gc, lc, lr, co)) → ∀ f, N < f → wX_shortest_77 post (nI s) (nI (o + n)) f (nI (o + a)) px st lf cd bg gv ob ol pb pn xp fh fl fa mk cb mi mb ml pa kb kl kc th pl md cr hc hg hi ib il it qi qc gc lc lr co) ∧
    (∀ (post : Int32 → SY → Prop) (be : Nat → Int32), bk_R o (o + n) cY (fun q => be (q - o)) → (∀ be, bk_R o (o + n) cF (fun q => be (q - o)) → post (nI (cF (o + n))) (fr, en, ma, wr, st, lf, cd, ta, bg, kc, ob, ol, pb, pn, yp, ki, le, go, mk, cb, mb, ml, la, ps, pd, pt, kw, kh, kf, kz, ky, th, pl, md, cr, gc, lc, lr, wh, od, tg, tr, so, bd, wo, be)) → ∀ f, N < f → wY_shortest_68 post (nI n) (nI (64 * s)) (nI o) f (nI a) fr en ma wr st lf cd ta bg kc ob ol pb pn yp ki le go mk cb mb ml la ps pd pt kw kh kf kz ky th pl md cr gc lc lr wh od tg tr so bd wo be) := by
  intro N
  induction N with
  | zero =>
    intro a cX cY c ha hc
    rw [Nat.add_zero] at ha
    subst ha
    rw [bk_lit_0, bk_lit_0] at hc
    have ce : (nI (o + a)).toNatClampNeg = o + a := nI_clamp (by omega)
    have ca : (nI a).toNatClampNeg = a := nI_clamp (by omega)
    refine ⟨c, id, ?_, ?_⟩
    · intro post co hR k f h
      obtain ⟨f, rfl⟩ : ∃ f', f = f' + 1 := ⟨f - 1, by omega⟩
      have h1 := bk_R_eq hR (fun q x y => (hc q x y).1)
      refine br_t (nI_le (Nat.le_refl _) (by omega)) ⟨pk_in (o + a) 65 (by omega), ?_⟩
      rw [ce, (h1 (o + a) (by omega) (by omega)).1]
      exact k co h1
    · intro post be hR k f h
      obtain ⟨f, rfl⟩ : ∃ f', f = f' + 1 := ⟨f - 1, by omega⟩
      have h1 := bk_R_eq hR (fun q x y => (hc q x y).2)
      have h2 := (h1 (o + a) (by omega) (by omega)).1
      have ej : o + a - o = a := by omega
      dsimp only at h2
      rw [ej] at h2
      refine br_t (nI_le (Nat.le_refl _) (by omega)) ⟨pk_in a 65 (by omega), ?_⟩
      rw [ca, h2]
      exact k be h1
  | succ N ih =>
    intro a cX cY c ha hc
    obtain ⟨c1, hc1⟩ := bk_Cp_ex (fun j => pb (64 * s + j)) (o + n) (o + a) (fun f => f < o + a) c
    obtain ⟨cF, h0, hX, hY⟩ := ih (a + 1) c1 c1 (bk_lit c1 (o + (a + 1)) N) (by omega) (fun q _ _ => ⟨rfl, rfl⟩)
    have eN : o + n - (o + a) = N + 1 := by omega
    have eM : n - a = N + 1 := by omega
    refine ⟨cF, fun z => h0 ?_, ?_, ?_⟩
    · have z1 : bk_lit c1 (o + (a + 1)) N o = c1 o := if_neg (by omega)
      have z2 : c1 o = c o := (hc1 o).2 (by rintro ⟨f, _, M⟩; have := M.1; omega)
      rw [z1, z2, z]
    · intro post co hR k f h
      obtain ⟨f, rfl⟩ : ∃ f', f = f' + 1 := ⟨f - 1, by omega⟩
      refine br_f (nI_ge (by omega) (by omega)) (xk_tryLit (c := cX) hR (by omega) (by omega) hn (fun co h1 => ?_))
      rw [eN] at h1
      exact xk_tryCop (bk_R_eq h1 (fun q x y => (hc q x y).1)) hs (by omega) (by omega) hn hc1 (fun co h2 => nm_r (nI_1 _) (hX post co h2 k f (by omega)))
    · intro post be hR k f h
      obtain ⟨f, rfl⟩ : ∃ f', f = f' + 1 := ⟨f - 1, by omega⟩
      refine br_f (nI_ge (by omega) (by omega)) ⟨N + 2, yk_lits77 (i := 0) (c := cY) hn (by omega) (fun be h1 => ?_) (N + 2) be (by rw [bk_lit_0]; exact hR) (by omega) (by omega)⟩
      rw [eM] at h1
      refine ⟨o + a + 1, yk_cop116 (d := 1) (c0 := c) hs hn (by omega) (fun be c' x y => ?_) (o + a + 1) be c (by omega) (by omega) (bk_R_eq h1 (fun q x y => (hc q x y).2)) (bk_Cp_0 (fun f => by show ¬ (f < o + a ∧ o + a - f < 1); omega)) (by omega)⟩
      rw [bk_Cp_uniq y hc1 (fun _ => Iff.rfl)] at x
      exact hY post be x k f (by omega)
theorem xk_s51 {post : Int32 → SX → Prop} {s o n : Nat} (hn : o + n ≤ 64) (k : ∀ co, bk_R o (o + n) (bk_c0 o 130) co → ∃ m : Nat, wX_shortest_77 post (nI s) (nI (o + n)) m (nI o) px st lf cd bg gv ob ol pb pn xp fh fl fa mk cb mi mb ml pa kb kl kc th pl md cr hc hg hi ib il it qi qc gc lc lr co) :
    ∀ (f i : Nat) (co : Nat → Int32), bk_R o (o + i) (bk_c0 o 130) co → i ≤ n → n - i < f → wX_shortest_51 post (nI s) (nI (o + n)) (nI o) px f (nI (o + i + 1)) st lf cd bg gv ob ol pb pn xp fh fl fa mk cb mi mb ml pa kb kl kc th pl md cr hc hg hi ib il it qi qc gc lc lr co
  | 0, i, co, _, _, h => by omega
  | f + 1, i, co, h, h1, h2 => by
    by_cases l : i = n
    · rw [l] at h
      exact br_t (nI_lt (by omega) (by omega)) (k co h)
    · have c2 : (nI (o + i + 1)).toNatClampNeg = o + i + 1 := nI_clamp (by omega)
      refine br_f (nI_nlt (by omega) (by omega)) ⟨pk_in (o + i + 1) 65 (by omega), ?_⟩
      rw [c2]
      refine nm_e (nm_r (nI_1 _) (xk_s51 hn k f (i + 1) _ (fun q x y => ?_) (by omega) (by omega)))
      by_cases e1 : q = o + i + 1
      · rw [e1, pk_us, bk_c0_b (by omega)]
        exact ⟨rfl, by omega⟩
      · rw [pk_un e1]
        exact h q x (by omega)
theorem yk_s43 {post : Int32 → SY → Prop} {s o n : Nat} (hn : o + n ≤ 64) (k : ∀ be, bk_R o (o + n) (bk_c0 o 1000) (fun q => be (q - o)) → ∃ m : Nat, wY_shortest_68 post (nI n) (nI (64 * s)) (nI o) m 0 fr en ma wr st lf cd ta bg kc ob ol pb pn yp ki le go mk cb mb ml la ps pd pt kw kh kf kz ky th pl md cr gc lc lr wh od tg tr so bd wo be) :
    ∀ (f i : Nat) (be : Nat → Int32), bk_R o (o + i) (bk_c0 o 1000) (fun q => be (q - o)) → i ≤ n → n - i < f → wY_shortest_43 post (nI n) (nI (64 * s)) (nI o) fr en ma wr f (nI (i + 1)) st lf cd ta bg kc ob ol pb pn yp ki le go mk cb mb ml la ps pd pt kw kh kf kz ky th pl md cr gc lc lr wh od tg tr so bd wo be
  | 0, i, be, _, _, h => by omega
  | f + 1, i, be, h, h1, h2 => by
    by_cases l : i = n
    · rw [l] at h
      exact br_t (nI_lt (by omega) (by omega)) (k be h)
    · have c2 : (nI (i + 1)).toNatClampNeg = i + 1 := nI_clamp (by omega)
      refine br_f (nI_nlt (by omega) (by omega)) ⟨pk_in (i + 1) 65 (by omega), ?_⟩
      rw [c2]
      refine nm_e (nm_r (nI_1 _) (yk_s43 hn k f (i + 1) _ (fun q x y => ?_) (by omega) (by omega)))
      dsimp only
      by_cases e1 : q = o + (i + 1)
      · have e2 : q - o = i + 1 := by omega
        rw [e2, pk_us, bk_c0_b (by omega)]
        exact ⟨rfl, by omega⟩
      · have e2 : q - o ≠ i + 1 := by omega
        rw [pk_un e2]
        exact h q x (by omega)
end SHORT
end
section
/-! the start -/
def bk_m1 (n : Nat) : Nat → Int32 := fun j => if j < n then -1 else 0
theorem bk_m1_0 : bk_m1 0 = fun _ => 0 := by
  funext j
  exact if_neg (by omega)
theorem bk_m1_a {n j : Nat} (h : j < n) : bk_m1 n j = -1 := if_pos h
theorem bk_m1_s (n : Nat) : upd (bk_m1 n) n (-1) = bk_m1 (n + 1) := by
  funext j
  unfold upd bk_m1
  by_cases e : j = n
  · have a1 : j < n + 1 := by omega
    rw [if_pos e, if_pos a1]
  · rw [if_neg e]
    by_cases h : j < n
    · have a1 : j < n + 1 := by omega
      rw [if_pos h, if_pos a1]
    · have a1 : ¬ j < n + 1 := by omega
      rw [if_neg h, if_neg a1]
section INIT
variable {B : Nat} {A : Nat → List bk_E} {g : Nat → Nat} {st lf cd bg gv ob ol pb pn xp fh fl fa mk cb mi mb ml pa kb kl kc th pl md cr hc hg hi ib il it qi qc gc lc lr co ta yp ki le go la ps pd pt kw kh kf kz ky wh od tg tr so bd wo be : Nat → Int32} {px fr en ma wr : Int32}
theorem xk_init {post : SX → Prop} (hp : post (px, st, lf, cd, bg, gv, ob, ol, pb, pn, xp, fh, fl, fa, mk, cb, mi, mb, ml, pa, kb, kl, kc, th, pl, md, cr, hc, hg, hi, ib, il, it, qi, qc, gc, lc, bk_m1 6, co)) : ∀ f i, i ≤ 6 → 6 - i < f → wX_init_306 post px f (nI i) st lf cd bg gv ob ol pb pn xp fh fl fa mk cb mi mb ml pa kb kl kc th pl md cr hc hg hi ib il it qi qc gc lc (bk_m1 i) co
  | 0, i, _, h => by omega
  | f + 1, i, h1, h2 => by
    by_cases e : i = 6
    · rw [e]
      exact br_t (nI_le (a := 6) (by omega) (by omega)) hp
    · have ci : (nI i).toNatClampNeg = i := nI_clamp (by omega)
      refine br_f (nI_ge (b := 6) (by omega) (by omega)) ⟨pk_in i 6 (by omega), ?_⟩
      rw [ci, bk_m1_s]
      exact nm_e (nm_r (nI_1 i) (xk_init hp f (i + 1) (by omega) (by omega)))
theorem yk_init352 {post : SY → Prop} (hp : post (fr, en, ma, wr, st, lf, cd, ta, bg, kc, ob, ol, pb, pn, yp, ki, le, go, mk, cb, mb, ml, la, ps, pd, pt, kw, kh, kf, kz, ky, th, pl, md, cr, gc, lc, bk_m1 6, wh, od, tg, tr, so, bd, wo, be)) : ∀ f i, i ≤ 6 → 6 - i < f → wY_init_352 post fr en ma wr f (nI i) st lf cd ta bg kc ob ol pb pn yp ki le go mk cb mb ml la ps pd pt kw kh kf kz ky th pl md cr gc lc (bk_m1 i) wh od tg tr so bd wo be
  | 0, i, _, h => by omega
  | f + 1, i, h1, h2 => by
    by_cases e : i = 6
    · rw [e]
      exact br_t (nI_le (a := 6) (by omega) (by omega)) hp
    · have ci : (nI i).toNatClampNeg = i := nI_clamp (by omega)
      refine br_f (nI_ge (b := 6) (by omega) (by omega)) ⟨pk_in i 6 (by omega), ?_⟩
      rw [ci, bk_m1_s]
      exact nm_e (nm_r (nI_1 i) (yk_init352 hp f (i + 1) (by omega) (by omega)))
theorem yk_init331 {post : SY → Prop} (hp : ∃ m : Nat, wY_init_352 post fr en ma wr m 0 st lf cd ta bg kc ob ol pb pn yp ki le go mk cb mb ml la ps pd pt kw kh kf kz ky th pl md cr gc lc lr (bk_m1 112) od tg tr so bd wo be) : ∀ f i, i ≤ 112 → 112 - i < f → wY_init_331 post fr en ma wr f (nI i) st lf cd ta bg kc ob ol pb pn yp ki le go mk cb mb ml la ps pd pt kw kh kf kz ky th pl md cr gc lc lr (bk_m1 i) od tg tr so bd wo be
  | 0, i, _, h => by omega
  | f + 1, i, h1, h2 => by
    by_cases e : i = 112
    · rw [e]
      exact br_t (nI_le (a := 112) (by omega) (by omega)) hp
    · have ci : (nI i).toNatClampNeg = i := nI_clamp (by omega)
      refine br_f (nI_ge (b := 112) (by omega) (by omega)) ⟨pk_in i 112 (by omega), ?_⟩
      rw [ci, bk_m1_s]
      exact nm_e (nm_r (nI_1 i) (yk_init331 hp f (i + 1) (by omega) (by omega)))
end INIT
theorem bk_S_init : bk_S (1000 * 0) (fun _ => []) (fun _ => 0) (fun _ => 0) (fun _ => 0) (fun _ => 0) (fun _ => 0) (fun _ => 0) (fun _ => 0) (bk_m1 6) (fun _ => 0) (fun _ => 0) (fun _ => 0) (fun _ => 0) (fun _ => 0) (fun _ => 0) (fun _ => 0) (bk_m1 112) (fun _ => 0) (fun _ => 0) (fun _ => 0) (fun _ => 0) (fun _ => 0) 0 0 (fun _ => 0) (fun _ => 0) (fun _ => 0) (fun _ => 0) (fun _ => 0) (fun _ => 0) (fun _ => 0) (fun _ => 0) (fun _ => 0) (fun _ => 0) (fun _ => 0) (fun _ => 0) (fun _ => 0) (fun _ => 0) (fun _ => 0) (fun _ => 0) (fun _ => 0) (fun _ => 0) (fun _ => 0) (fun _ => 0) (fun _ => 0) (fun _ => 0) (fun _ => 0) (fun _ => 0) (fun _ => 0) (fun _ => 0) (fun _ => 0) (fun _ => 0) (fun _ => 0) (fun _ => 0) (fun _ => 0) (fun _ => 0) := by
  have nn : ∀ (p : bk_E), ¬ p ∈ ([] : List bk_E) := fun p => List.not_mem_nil
  have ng : ∀ (i : Nat) (p : bk_E), ¬ ([] : List bk_E)[i]? = some p := fun i p h => by simp at h
  have z0 : (0 : Int32).toInt = 0 := by decide
  refine ⟨⟨⟨⟨?_, ?_, ?_, ?_, ?_, ?_, ?_, ?_⟩, ?_, ?_, ?_, ?_, ?_⟩, ?_, ?_, ⟨bk_By0, bk_By0, bk_By0, bk_By0⟩, fun z _ => ⟨0, by omega, rfl⟩, fun z _ => ⟨0, by omega, rfl⟩, fun z _ => Or.inr (fun r _ _ => rfl), rfl⟩, fun z _ => bk_F_zero rfl rfl rfl rfl rfl⟩
  · exact fun L p _ h => absurd h (nn p)
  · exact fun L _ => List.Pairwise.nil
  · exact fun y hy => Or.inl (bk_m1_a hy)
  · exact fun L M p q _ _ h => absurd h (nn p)
  · exact fun q _ => Or.inl rfl
  · exact ⟨fun L _ => Nat.zero_le _, fun r _ => Nat.zero_le _⟩
  · exact fun r p _ h => absurd h (nn p)
  · exact fun r r' p q _ _ _ h => absurd h (nn p)
  · exact fun t _ => ⟨rfl, fun i p h => absurd h (ng i p)⟩
  · exact fun r _ => Or.inl ⟨rfl, rfl⟩
  · exact fun s _ => ⟨rfl, rfl, Nat.zero_le _, ⟨0, by omega, rfl⟩, ⟨0, by omega, rfl⟩⟩
  · exact fun t ht => Or.inl (bk_m1_a ht)
  · rw [z0]
    omega
  · exact fun r _ => ⟨rfl, fun i p h => absurd h (ng i p)⟩
  · exact fun z _ => ⟨0, by omega, rfl, fun i h => absurd h (by omega)⟩
theorem i_vc0 : wpX_init (fun u => wpY_init (fun v => i_Rel 0 u v)) := by
  unfold wpX_init
  refine ⟨7, ?_⟩
  have w := xk_init (post := fun u => wpY_init (fun v => i_Rel 0 u v)) (px := 0) (st := fun _ => 0) (lf := fun _ => 0) (cd := fun _ => 0) (bg := fun _ => 0) (gv := fun _ => 0) (ob := fun _ => 0) (ol := fun _ => 0) (pb := fun _ => 0) (pn := fun _ => 0) (xp := fun _ => 0) (fh := fun _ => 0) (fl := fun _ => 0) (fa := fun _ => 0) (mk := fun _ => 0) (cb := fun _ => 0) (mi := fun _ => 0) (mb := fun _ => 0) (ml := fun _ => 0) (pa := fun _ => 0) (kb := fun _ => 0) (kl := fun _ => 0) (kc := fun _ => 0) (th := fun _ => 0) (pl := fun _ => 0) (md := fun _ => 0) (cr := fun _ => 0) (hc := fun _ => 0) (hg := fun _ => 0) (hi := fun _ => 0) (ib := fun _ => 0) (il := fun _ => 0) (it := fun _ => 0) (qi := fun _ => 0) (qc := fun _ => 0) (gc := fun _ => 0) (lc := fun _ => 0) (co := fun _ => 0) ?_ 7 0 (by omega) (by omega)
  · rw [bk_m1_0] at w
    exact w
  · show wpY_init _
    unfold wpY_init
    refine ⟨113, ?_⟩
    have y := yk_init331 (post := fun v => i_Rel 0 (0, fun _ => 0, fun _ => 0, fun _ => 0, fun _ => 0, fun _ => 0, fun _ => 0, fun _ => 0, fun _ => 0, fun _ => 0, fun _ => 0, fun _ => 0, fun _ => 0, fun _ => 0, fun _ => 0, fun _ => 0, fun _ => 0, fun _ => 0, fun _ => 0, fun _ => 0, fun _ => 0, fun _ => 0, fun _ => 0, fun _ => 0, fun _ => 0, fun _ => 0, fun _ => 0, fun _ => 0, fun _ => 0, fun _ => 0, fun _ => 0, fun _ => 0, fun _ => 0, fun _ => 0, fun _ => 0, fun _ => 0, fun _ => 0, bk_m1 6, fun _ => 0) v) (fr := 0) (en := 0) (ma := 0) (wr := 0) (st := fun _ => 0) (lf := fun _ => 0) (cd := fun _ => 0) (ta := fun _ => 0) (bg := fun _ => 0) (kc := fun _ => 0) (ob := fun _ => 0) (ol := fun _ => 0) (pb := fun _ => 0) (pn := fun _ => 0) (yp := fun _ => 0) (ki := fun _ => 0) (le := fun _ => 0) (go := fun _ => 0) (mk := fun _ => 0) (cb := fun _ => 0) (mb := fun _ => 0) (ml := fun _ => 0) (la := fun _ => 0) (ps := fun _ => 0) (pd := fun _ => 0) (pt := fun _ => 0) (kw := fun _ => 0) (kh := fun _ => 0) (kf := fun _ => 0) (kz := fun _ => 0) (ky := fun _ => 0) (th := fun _ => 0) (pl := fun _ => 0) (md := fun _ => 0) (cr := fun _ => 0) (gc := fun _ => 0) (lc := fun _ => 0) (od := fun _ => 0) (tg := fun _ => 0) (tr := fun _ => 0) (so := fun _ => 0) (bd := fun _ => 0) (wo := fun _ => 0) (be := fun _ => 0) (lr := fun _ => 0) ⟨7, ?_⟩ 113 0 (by omega) (by omega)
    · rw [bk_m1_0] at y
      exact y
    · have y2 := yk_init352 (post := fun v => i_Rel 0 (0, fun _ => 0, fun _ => 0, fun _ => 0, fun _ => 0, fun _ => 0, fun _ => 0, fun _ => 0, fun _ => 0, fun _ => 0, fun _ => 0, fun _ => 0, fun _ => 0, fun _ => 0, fun _ => 0, fun _ => 0, fun _ => 0, fun _ => 0, fun _ => 0, fun _ => 0, fun _ => 0, fun _ => 0, fun _ => 0, fun _ => 0, fun _ => 0, fun _ => 0, fun _ => 0, fun _ => 0, fun _ => 0, fun _ => 0, fun _ => 0, fun _ => 0, fun _ => 0, fun _ => 0, fun _ => 0, fun _ => 0, fun _ => 0, bk_m1 6, fun _ => 0) v) (fr := 0) (en := 0) (ma := 0) (wr := 0) (st := fun _ => 0) (lf := fun _ => 0) (cd := fun _ => 0) (ta := fun _ => 0) (bg := fun _ => 0) (kc := fun _ => 0) (ob := fun _ => 0) (ol := fun _ => 0) (pb := fun _ => 0) (pn := fun _ => 0) (yp := fun _ => 0) (ki := fun _ => 0) (le := fun _ => 0) (go := fun _ => 0) (mk := fun _ => 0) (cb := fun _ => 0) (mb := fun _ => 0) (ml := fun _ => 0) (la := fun _ => 0) (ps := fun _ => 0) (pd := fun _ => 0) (pt := fun _ => 0) (kw := fun _ => 0) (kh := fun _ => 0) (kf := fun _ => 0) (kz := fun _ => 0) (ky := fun _ => 0) (th := fun _ => 0) (pl := fun _ => 0) (md := fun _ => 0) (cr := fun _ => 0) (gc := fun _ => 0) (lc := fun _ => 0) (wh := bk_m1 112) (od := fun _ => 0) (tg := fun _ => 0) (tr := fun _ => 0) (so := fun _ => 0) (bd := fun _ => 0) (wo := fun _ => 0) (be := fun _ => 0) ⟨fun _ => [], fun _ => 0, 0, fun _ => 0, fun _ => 0, fun _ => 0, fun _ => 0, fun _ => 0, fun _ => 0, fun _ => 0, fun _ => 0, fun _ => 0, fun _ => 0, fun _ => 0, fun _ => 0, fun _ => 0, fun _ => 0, fun _ => 0, fun _ => 0, fun _ => 0, fun _ => 0, fun _ => 0, fun _ => 0, fun _ => 0, fun _ => 0, fun _ => 0, fun _ => 0, fun _ => 0, fun _ => 0, fun _ => 0, fun _ => 0, fun _ => 0, fun _ => 0, fun _ => 0, fun _ => 0, fun _ => 0, fun _ => 0, fun _ => 0, fun _ => 0, bk_m1 6, fun _ => 0, 0, 0, 0, 0, fun _ => 0, fun _ => 0, fun _ => 0, fun _ => 0, fun _ => 0, fun _ => 0, fun _ => 0, fun _ => 0, fun _ => 0, fun _ => 0, fun _ => 0, fun _ => 0, fun _ => 0, fun _ => 0, bk_m1 112, fun _ => 0, fun _ => 0, fun _ => 0, fun _ => 0, fun _ => 0, fun _ => 0, fun _ => 0, rfl, rfl, bk_S_init⟩ 7 0 (by omega) (by omega)
      rw [bk_m1_0] at y2
      exact y2
theorem i_vc_shortest {k : Nat} {u : SX} {v : SY} (I : i_Rel k u v) (hk : k + 5 ≤ 2560) (v1 : Int32) (v2 : Int32) : wpX_shortest (fun r u' => wpY_shortest (fun r' v' => r' = r ∧ i_Rel (k + 5) u' v') v v1 v2) u v1 v2 := by
  obtain ⟨A, g, px, st, lf, cd, bg, gv, ob, ol, pb, pn, xp, fh, fl, fa, mk, cb, mi, mb, ml, pa, kb, kl, kc, th, pl, md, cr, hc, hg, hi, ib, il, it, qi, qc, gc, lc, lr, co, fr, en, ma, wr, ta, yp, ki, le, go, la, ps, pd, pt, kw, kh, kf, kz, ky, wh, od, tg, tr, so, bd, wo, be, rfl, rfl, h⟩ := I
  have same : i_Rel (k + 5) (px, st, lf, cd, bg, gv, ob, ol, pb, pn, xp, fh, fl, fa, mk, cb, mi, mb, ml, pa, kb, kl, kc, th, pl, md, cr, hc, hg, hi, ib, il, it, qi, qc, gc, lc, lr, co) (fr, en, ma, wr, st, lf, cd, ta, bg, kc, ob, ol, pb, pn, yp, ki, le, go, mk, cb, mb, ml, la, ps, pd, pt, kw, kh, kf, kz, ky, th, pl, md, cr, gc, lc, lr, wh, od, tg, tr, so, bd, wo, be) := ⟨A, g, px, st, lf, cd, bg, gv, ob, ol, pb, pn, xp, fh, fl, fa, mk, cb, mi, mb, ml, pa, kb, kl, kc, th, pl, md, cr, hc, hg, hi, ib, il, it, qi, qc, gc, lc, lr, co, fr, en, ma, wr, ta, yp, ki, le, go, la, ps, pd, pt, kw, kh, kf, kz, ky, wh, od, tg, tr, so, bd, wo, be, rfl, rfl, bk_S_mono h (by omega)⟩
  unfold wpX_shortest
  rcases pk_ix v1 (n := 4) (by omega) with a | a | ⟨s, hs, rfl⟩
  · refine xk_isS0 (Or.inl a) (br_t rfl ?_)
    unfold wpY_shortest
    exact yk_in0 (N := 4) (Or.inl a) (br_t rfl ⟨rfl, same⟩)
  · refine xk_isS0 (Or.inr a) (br_t rfl ?_)
    unfold wpY_shortest
    exact yk_in0 (N := 4) (Or.inr a) (br_t rfl ⟨rfl, same⟩)
  · have cs : (nI s).toNatClampNeg = s := nI_clamp (by omega)
    have i4 : vp_in (nI s) 4 := pk_in s 4 hs
    obtain ⟨a, ha, ea⟩ := h.1.2.2.2.2.1 s hs
    refine xk_isS1 hs (br_f (by decide) ?_)
    rcases iv_x (x := v2) (K := a) (by omega) with bad | ⟨n, hn1, hna, rfl⟩
    · by_cases q : v2 < 1
      · refine br_t q ?_
        unfold wpY_shortest
        exact yk_in1 (N := 4) hs (by omega) (br_f (by decide) (br_t q ⟨rfl, same⟩))
      · have q2 : ¬ v2 ≤ nI a := by
          rcases bad with w | w
          · exact absurd w q
          · exact Int32.not_le.mpr w
        refine br_f q ⟨i4, ?_⟩
        rw [cs, ea]
        refine br_f q2 ?_
        unfold wpY_shortest
        refine yk_in1 (N := 4) hs (by omega) (br_f (by decide) (br_f q ⟨i4, ?_⟩))
        rw [cs, ea]
        exact br_f q2 ⟨rfl, same⟩
    · obtain ⟨o, rfl⟩ : ∃ o, a = o + n := ⟨a - n, by omega⟩
      have e1 : nI (o + n) - nI n = nI o := (pk_sub (by omega)).trans (congrArg nI (by omega))
      have co' : (nI o).toNatClampNeg = o := nI_clamp (by omega)
      obtain ⟨cF, h0, hX, hY⟩ := lk_short (s := s) (o := o) (n := n) (px := px) (st := st) (lf := lf) (cd := cd) (bg := bg) (gv := gv) (ob := ob) (ol := ol) (pb := pb) (pn := pn) (xp := xp) (fh := fh) (fl := fl) (fa := fa) (mk := mk) (cb := cb) (mi := mi) (mb := mb) (ml := ml) (pa := pa) (kb := kb) (kl := kl) (kc := kc) (th := th) (pl := pl) (md := md) (cr := cr) (hc := hc) (hg := hg) (hi := hi) (ib := ib) (il := il) (it := it) (qi := qi) (qc := qc) (gc := gc) (lc := lc) (lr := lr) (fr := fr) (en := en) (ma := ma) (wr := wr) (ta := ta) (yp := yp) (ki := ki) (le := le) (go := go) (la := la) (ps := ps) (pd := pd) (pt := pt) (kw := kw) (kh := kh) (kf := kf) (kz := kz) (ky := ky) (wh := wh) (od := od) (tg := tg) (tr := tr) (so := so) (bd := bd) (wo := wo) hs (by omega) n 0 (bk_c0 o 130) (bk_c0 o 1000) (fun q => if q = o then 0 else 1 + (q - o)) (by omega) (fun q x y => ⟨bk_lit_c0 (by omega) (by omega) x y, bk_lit_c0 (by omega) (by omega) x y⟩)
      have h1 := h0 (if_pos rfl)
      refine br_f (nI_nlt (b := 1) hn1 (by omega)) ⟨i4, ?_⟩
      rw [cs, ea]
      refine br_t (nI_le hna (by omega)) ⟨i4, nm_e (nm_r e1 ⟨pk_in o 65 (by omega), ?_⟩)⟩
      rw [co']
      refine nm_e (nm_r (nI_1 o) ⟨n + 1, xk_s51 (i := 0) (by omega) (fun co2 h2 => ⟨n + 1, hX _ co2 h2 (fun co2 h3 => ?_) (n + 1) (by omega)⟩) (n + 1) _ (fun q x y => ?_) (by omega) (by omega)⟩)
      rotate_left
      · have : q = o := by omega
        rw [this, pk_us, bk_c0_a]
        exact ⟨rfl, by omega⟩
      · show wpY_shortest _ _ _ _
        unfold wpY_shortest
        refine yk_in1 (N := 4) hs (by omega) (br_f (by decide) (br_f (nI_nlt (b := 1) hn1 (by omega)) ⟨i4, ?_⟩))
        rw [cs, ea]
        refine br_t (nI_le hna (by omega)) (nm_r (bn_mul2 s 64) ⟨i4, nm_r e1 ⟨n + 1, yk_s43 (i := 0) (by omega) (fun be2 h4 => ⟨n + 1, hY _ be2 h4 (fun be2 h5 => ?_) (n + 1) (by omega)⟩) (n + 1) be (fun q x y => ?_) (by omega) (by omega)⟩⟩)
        rotate_left
        · have : q = o := by omega
          dsimp only
          rw [this, Nat.sub_self, bk_c0_a, h.1.2.2.2.2.2.2.2]
          exact ⟨rfl, by omega⟩
        · have h6 := (h5 o (by omega) (by omega)).1
          dsimp only at h6
          rw [Nat.sub_self, h1] at h6
          obtain ⟨⟨s1, s2, s3, s4, s5, s6, s7, _⟩, hF⟩ := bk_S_mono h (show 1000 * k ≤ 1000 * (k + 5) by omega)
          exact ⟨rfl, A, g, px, st, lf, cd, bg, gv, ob, ol, pb, pn, xp, fh, fl, fa, mk, cb, mi, mb, ml, pa, kb, kl, kc, th, pl, md, cr, hc, hg, hi, ib, il, it, qi, qc, gc, lc, lr, co2, fr, en, ma, wr, ta, yp, ki, le, go, la, ps, pd, pt, kw, kh, kf, kz, ky, wh, od, tg, tr, so, bd, wo, be2, rfl, rfl, ⟨s1, s2, s3, s4, s5, s6, s7, h6⟩, hF⟩
end
