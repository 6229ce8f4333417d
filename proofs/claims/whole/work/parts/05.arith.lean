/-! comparisons and sums with literals -/
theorem bn_c (c : Nat) : (OfNat.ofNat c : Int32) = nI c := rfl
theorem bn_le (a c : Nat) (ha : a < 2 ^ 31) (hc : c < 2 ^ 31) : (nI a ≤ (no_index (OfNat.ofNat c) : Int32)) ↔ a ≤ (OfNat.ofNat c : Nat) := nI_leI (a := a) (b := c) ha hc
theorem bn_le2 (a c : Nat) (ha : a < 2 ^ 31) (hc : c < 2 ^ 31) : ((no_index (OfNat.ofNat c) : Int32) ≤ nI a) ↔ (OfNat.ofNat c : Nat) ≤ a := nI_leI (a := c) (b := a) hc ha
theorem bn_lt (a c : Nat) (ha : a < 2 ^ 31) (hc : c < 2 ^ 31) : (nI a < (no_index (OfNat.ofNat c) : Int32)) ↔ a < (OfNat.ofNat c : Nat) := nI_ltI (a := a) (b := c) ha hc
theorem bn_lt2 (a c : Nat) (ha : a < 2 ^ 31) (hc : c < 2 ^ 31) : ((no_index (OfNat.ofNat c) : Int32) < nI a) ↔ (OfNat.ofNat c : Nat) < a := nI_ltI (a := c) (b := a) hc ha
theorem bn_eq (a c : Nat) (ha : a < 2 ^ 31) (hc : c < 2 ^ 31) : (nI a = (no_index (OfNat.ofNat c) : Int32)) ↔ a = (OfNat.ofNat c : Nat) := nI_eq (a := a) (b := c) ha hc
theorem bn_eq2 (a c : Nat) (ha : a < 2 ^ 31) (hc : c < 2 ^ 31) : ((no_index (OfNat.ofNat c) : Int32) = nI a) ↔ (OfNat.ofNat c : Nat) = a := nI_eq (a := c) (b := a) hc ha
theorem bn_add (a c : Nat) : nI a + (no_index (OfNat.ofNat c) : Int32) = nI (a + (OfNat.ofNat c : Nat)) := nI_add a c
theorem bn_add2 (a c : Nat) : (no_index (OfNat.ofNat c) : Int32) + nI a = nI ((OfNat.ofNat c : Nat) + a) := nI_add c a
theorem bn_mul (a c : Nat) : nI a * (no_index (OfNat.ofNat c) : Int32) = nI (a * (OfNat.ofNat c : Nat)) := pk_mul a c
theorem bn_mul2 (a c : Nat) : (no_index (OfNat.ofNat c) : Int32) * nI a = nI ((OfNat.ofNat c : Nat) * a) := pk_mul c a
theorem bn_sub (a c : Nat) (h : (OfNat.ofNat c : Nat) ≤ a) : nI a - (no_index (OfNat.ofNat c) : Int32) = nI (a - (OfNat.ofNat c : Nat)) := pk_sub (a := a) (b := c) h
theorem bn_div (a c : Nat) (ha : a < 2 ^ 31) (h0 : 0 < (OfNat.ofNat c : Nat)) (hc : c < 2 ^ 31) : nI a / (no_index (OfNat.ofNat c) : Int32) = nI (a / (OfNat.ofNat c : Nat)) := pk_div (a := a) (d := c) ha h0 hc
theorem bn_m1 (a : Nat) (h : 1 ≤ a) : nI a + (-1) = nI (a - 1) := by
  obtain ⟨b, rfl⟩ : ∃ b, a = b + 1 := ⟨a - 1, by omega⟩
  exact pk_m1 b
theorem bn_in (k N : Nat) (h : k < 2 ^ 31) : vp_in (nI k) N ↔ k < N := by
  rw [vp_in_iff, nI_toInt h]; omega
theorem bn_neg (a : Nat) (h : a < 2 ^ 31) : (nI a < (-1 : Int32)) ↔ False := by
  rw [Int32.lt_iff_toInt_lt, nI_toInt h, show (-1 : Int32).toInt = -1 from by decide]
  constructor
  · intro x; omega
  · exact False.elim
theorem bn_nem1 (a : Nat) (h : a < 2 ^ 31) : (nI a = (-1 : Int32)) ↔ False := ⟨fun e => bk_nm1 h e, False.elim⟩
theorem bn_255 (a : Nat) (h : a < 2 ^ 31) : nI a &&& 255 = nI (a % 256) := pk_andN (n := a) (by omega) 8 (by decide)
theorem bn_127 (a : Nat) (h : a < 2 ^ 31) : nI a &&& 127 = nI (a % 128) := pk_andN (n := a) (by omega) 7 (by decide)
theorem bn_15 (a : Nat) (h : a < 2 ^ 31) : nI a &&& 15 = nI (a % 16) := pk_andN (n := a) (by omega) 4 (by decide)
theorem bn_128 : ∀ b, b < 256 → (nI b &&& 128 = 0 ↔ b < 128) := by decide +kernel
theorem bn_64 : ∀ b, b < 256 → (nI b &&& 64 = 0 ↔ b / 64 % 2 = 0) := by decide +kernel
theorem bn_48 : ∀ b, b < 256 → (nI b &&& 48 = 0 ↔ b / 16 % 4 = 0) := by decide +kernel
theorem bn_xor {a b : Nat} (ha : a < 256) (hb : b < 256) : a ^^^ b < 256 := Nat.xor_lt_two_pow (n := 8) ha hb
theorem bn_b1 : vp_nar .boolean 1 = 1 := by decide
theorem bn_b0 : vp_nar .boolean 0 = 0 := by decide
theorem bn_n1 : narrow .boolean (.int 1) = .int 1 := by rfl
theorem bn_n0 : narrow .boolean (.int 0) = .int 0 := by rfl
theorem wk_t {c A B : Prop} (h : c) : ((c → A) ∧ (¬ c → B)) ↔ A := ⟨fun x => x.1 h, fun a => ⟨fun _ => a, fun n => absurd h n⟩⟩
theorem wk_f {c A B : Prop} (h : ¬ c) : ((c → A) ∧ (¬ c → B)) ↔ B := ⟨fun x => x.2 h, fun b => ⟨fun n => absurd n h, fun _ => b⟩⟩
theorem wk_i {i : Int32} {N : Nat} {P : Prop} (h : vp_in i N) : (vp_in i N ∧ P) ↔ P := ⟨fun x => x.2, fun p => ⟨h, p⟩⟩
