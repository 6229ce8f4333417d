/-! what is kept: rows closed up -/
def bk_nr (F : Nat → Int32) (x : Int32) : Nat → Nat
  | 0 => 0
  | n + 1 => bk_nr F x n + (if F n = x then 0 else 1)
theorem bk_nr_le (F : Nat → Int32) (x : Int32) : ∀ n, bk_nr F x n ≤ n
  | 0 => Nat.le_refl 0
  | n + 1 => by have := bk_nr_le F x n; unfold bk_nr; split <;> omega
theorem bk_nr_up (F : Nat → Int32) (x : Int32) {n : Nat} (h : F n ≠ x) : bk_nr F x (n + 1) = bk_nr F x n + 1 := by
  rw [bk_nr, if_neg h]
theorem bk_nr_eq (F : Nat → Int32) (x : Int32) {n : Nat} (h : F n = x) : bk_nr F x (n + 1) = bk_nr F x n := by
  rw [bk_nr, if_pos h]; rfl
theorem bk_nr_mono (F : Nat → Int32) (x : Int32) {m : Nat} : ∀ n, m ≤ n → bk_nr F x m ≤ bk_nr F x n
  | 0, h => by have : m = 0 := by omega
               rw [this]; exact Nat.le_refl _
  | n + 1, h => by
    by_cases e : m = n + 1
    · rw [e]; exact Nat.le_refl _
    · have := bk_nr_mono F x (m := m) n (by omega)
      have : bk_nr F x n ≤ bk_nr F x (n + 1) := by
        by_cases z : F n = x
        · rw [bk_nr_eq F x z]; exact Nat.le_refl _
        · rw [bk_nr_up F x z]; omega
      omega
theorem bk_nr_lt (F : Nat → Int32) (x : Int32) {j n : Nat} (h : j < n) (hx : F j ≠ x) : bk_nr F x j < bk_nr F x n := by
  have := bk_nr_mono F x (m := j + 1) n h
  rw [bk_nr_up F x hx] at this
  omega
theorem bk_nr_ex (F : Nat → Int32) (x : Int32) : ∀ n m, m < bk_nr F x n → ∃ j, j < n ∧ F j ≠ x ∧ bk_nr F x j = m
  | 0, m, h => absurd h (Nat.not_lt_zero m)
  | n + 1, m, h => by
    by_cases z : F n = x
    · rw [bk_nr_eq F x z] at h
      obtain ⟨j, h1, h2⟩ := bk_nr_ex F x n m h
      exact ⟨j, by omega, h2⟩
    · rw [bk_nr_up F x z] at h
      by_cases e : m = bk_nr F x n
      · exact ⟨n, by omega, z, e.symm⟩
      · obtain ⟨j, h1, h2⟩ := bk_nr_ex F x n m (by omega)
        exact ⟨j, by omega, h2⟩
theorem bk_nr_congr (F G : Nat → Int32) (x : Int32) : ∀ n, (∀ j, j < n → F j = G j) → bk_nr F x n = bk_nr G x n
  | 0, _ => rfl
  | n + 1, h => by
    unfold bk_nr
    rw [bk_nr_congr F G x n (fun j hj => h j (by omega)), h n (by omega)]
/-- nothing of x: all stay where they are -/
theorem bk_nr_all (F : Nat → Int32) (x : Int32) : ∀ n, (∀ j, j < n → F j ≠ x) → bk_nr F x n = n
  | 0, _ => rfl
  | n + 1, h => by rw [bk_nr_up F x (h n (by omega)), bk_nr_all F x n (fun j hj => h j (by omega))]
def bk_c1 (f : Nat → Int32) (b : Nat) (F : Nat → Int32) (x : Int32) : Nat → Nat → Int32
  | 0 => f
  | i + 1 => if F i = x then bk_c1 f b F x i else upd (bk_c1 f b F x i) (b + bk_nr F x i) (bk_c1 f b F x i (b + i))
def bk_cw (w : Nat) (f : Nat → Int32) (b : Nat) (F : Nat → Int32) (x : Int32) : Nat → Nat → Int32
  | 0 => f
  | i + 1 => if F i = x then bk_cw w f b F x i else bk_mv (bk_cw w f b F x i) ((b + bk_nr F x i) * w) (fun k => bk_cw w f b F x i ((b + i) * w + k)) w
theorem bk_c1_t (f : Nat → Int32) (b : Nat) (F : Nat → Int32) (x : Int32) (i : Nat) (h : F i = x) : bk_c1 f b F x (i + 1) = bk_c1 f b F x i := by rw [bk_c1, if_pos h]
theorem bk_c1_f (f : Nat → Int32) (b : Nat) (F : Nat → Int32) (x : Int32) (i : Nat) (h : F i ≠ x) : bk_c1 f b F x (i + 1) = upd (bk_c1 f b F x i) (b + bk_nr F x i) (bk_c1 f b F x i (b + i)) := by rw [bk_c1, if_neg h]
theorem bk_cw_t (w : Nat) (f : Nat → Int32) (b : Nat) (F : Nat → Int32) (x : Int32) (i : Nat) (h : F i = x) : bk_cw w f b F x (i + 1) = bk_cw w f b F x i := by rw [bk_cw, if_pos h]
theorem bk_cw_f (w : Nat) (f : Nat → Int32) (b : Nat) (F : Nat → Int32) (x : Int32) (i : Nat) (h : F i ≠ x) : bk_cw w f b F x (i + 1) = bk_mv (bk_cw w f b F x i) ((b + bk_nr F x i) * w) (fun k => bk_cw w f b F x i ((b + i) * w + k)) w := by rw [bk_cw, if_neg h]
theorem bk_c1_o (f : Nat → Int32) (b : Nat) (F : Nat → Int32) (x : Int32) : ∀ i m, (m < b ∨ b + bk_nr F x i ≤ m) → bk_c1 f b F x i m = f m
  | 0, _, _ => rfl
  | i + 1, m, h => by
    unfold bk_c1
    by_cases z : F i = x
    · rw [if_pos z]
      rw [bk_nr_eq F x z] at h
      exact bk_c1_o f b F x i m h
    · rw [if_neg z]
      rw [bk_nr_up F x z] at h
      rw [pk_un (by omega)]
      exact bk_c1_o f b F x i m (by omega)
theorem bk_c1_i (f : Nat → Int32) (b : Nat) (F : Nat → Int32) (x : Int32) : ∀ i j, j < i → F j ≠ x → bk_c1 f b F x i (b + bk_nr F x j) = f (b + j)
  | 0, j, h, _ => absurd h (Nat.not_lt_zero j)
  | i + 1, j, h, hx => by
    unfold bk_c1
    have le := bk_nr_le F x i
    by_cases e : j = i
    · subst e
      rw [if_neg hx, pk_us]
      exact bk_c1_o f b F x j (b + j) (by omega)
    · have ih := bk_c1_i f b F x i j (by omega) hx
      by_cases z : F i = x
      · rw [if_pos z]; exact ih
      · have lt := bk_nr_lt F x (show j < i by omega) hx
        rw [if_neg z, pk_un (by omega)]; exact ih
theorem bk_cw_o (w : Nat) (f : Nat → Int32) (b : Nat) (F : Nat → Int32) (x : Int32) : ∀ i m k, k < w → (m < b ∨ b + bk_nr F x i ≤ m) → bk_cw w f b F x i (m * w + k) = f (m * w + k)
  | 0, _, _, _, _ => rfl
  | i + 1, m, k, hk, h => by
    unfold bk_cw
    by_cases z : F i = x
    · rw [if_pos z]
      rw [bk_nr_eq F x z] at h
      exact bk_cw_o w f b F x i m k hk h
    · rw [if_neg z]
      rw [bk_nr_up F x z] at h
      rw [bk_mv_o _ _ _ _ _ ?_]
      · exact bk_cw_o w f b F x i m k hk (by omega)
      · rcases h with h | h
        · left
          have : (m + 1) * w ≤ (b + bk_nr F x i) * w := Nat.mul_le_mul_right w (by omega)
          rw [Nat.add_mul, Nat.one_mul] at this
          omega
        · right
          have : (b + bk_nr F x i + 1) * w ≤ m * w := Nat.mul_le_mul_right w (by omega)
          rw [Nat.add_mul, Nat.one_mul] at this
          omega
theorem bk_cw_i (w : Nat) (f : Nat → Int32) (b : Nat) (F : Nat → Int32) (x : Int32) : ∀ i j k, k < w → j < i → F j ≠ x → bk_cw w f b F x i ((b + bk_nr F x j) * w + k) = f ((b + j) * w + k)
  | 0, j, _, _, h, _ => absurd h (Nat.not_lt_zero j)
  | i + 1, j, k, hk, h, hx => by
    unfold bk_cw
    have le := bk_nr_le F x i
    by_cases e : j = i
    · subst e
      rw [if_neg hx, bk_mv_i _ _ _ _ k hk]
      exact bk_cw_o w f b F x j (b + j) k hk (by omega)
    · have ih := bk_cw_i w f b F x i j k hk (by omega) hx
      by_cases z : F i = x
      · rw [if_pos z]; exact ih
      · have lt := bk_nr_lt F x (show j < i by omega) hx
        rw [if_neg z, bk_mv_o _ _ _ _ _ ?_]
        · exact ih
        · left
          have : (b + bk_nr F x j + 1) * w ≤ (b + bk_nr F x i) * w := Nat.mul_le_mul_right w (by omega)
          rw [Nat.add_mul (b + bk_nr F x j), Nat.one_mul] at this
          omega
