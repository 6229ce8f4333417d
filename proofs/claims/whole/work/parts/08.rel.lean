/-! frames that come, commands that are kept -/
def bk_Mi (mi pt pd : Nat → Int32) (s : Nat) : Prop := (mi s = 0 ∧ pt s = 0) ∨ (mi s = 1 ∧ pt s = 1 ∧ pd s = 0) ∨ (mi s = 2 ∧ pt s = 1 ∧ pd s = 1)
def bk_F1 (xp fh fl fa mi yp ki le go la ps pd pt : Nat → Int32) (s z : Nat) : Prop :=
  (xp s = 0 ∧ yp s = 0 ∧ bk_Mi mi pt pd s) ∨
  ∃ b o : Nat, b < 256 ∧ o = b % 16 ∧ fh s = nI b ∧ ki s = nI o ∧ la s = (if b < 128 then 0 else 1) ∧ ps s = (if b / 64 % 2 = 0 then 0 else 1) ∧
    ((o = 1 ∧ pt s = 0 ∧ mi s = (if b / 64 % 2 = 0 then 1 else 2)) ∨ (o = 0 ∧ pt s = 1 ∧ bk_Mi mi pt pd s) ∨ (8 ≤ o ∧ o ≤ 10 ∧ 128 ≤ b ∧ bk_Mi mi pt pd s)) ∧
    ((xp s = 1 ∧ yp s = 1) ∨
     (xp s = 2 ∧ o < 8 ∧ ((fa s = 0 ∧ fl s = 0 ∧ yp s = 2) ∨ (fa s = 1 ∧ yp s = 3 ∧ ∃ h, h < 256 ∧ fl s = nI h ∧ le s = nI (256 * h)))) ∨
     ∃ n : Nat, n ≤ 200 ∧ (8 ≤ o → n ≤ 16) ∧ fl s = nI n ∧ le s = nI n ∧
       ((xp s = 3 ∧ (o < 8 → z + n ≤ 200) ∧ ∃ a, a < 4 ∧ fa s = nI a ∧ yp s = nI (4 + a) ∧ go s = 0) ∨
        (xp s = 4 ∧ yp s = 8 ∧ ∃ a, a < n ∧ fa s = nI a ∧ go s = nI a ∧ (o < 8 → z + (n - a) ≤ 200))))
def bk_F (ml xp fh fl fa mi yp ki le go la ps pd pt : Nat → Int32) (s : Nat) : Prop := ∃ z, z ≤ 200 ∧ ml s = nI z ∧ bk_F1 xp fh fl fa mi yp ki le go la ps pd pt s z
/-- what is kept in X's place p and Y's place q: command w, place or tag a, transaction x, a body of n bytes -/
def bk_K1 (kb kl kw kh kf kz ky : Nat → Int32) (p q w a x n : Nat) : Prop :=
  ((w = 3 ∧ a < 6 ∧ 1 ≤ n ∧ n ≤ 16) ∨ ((w = 4 ∨ w = 5) ∧ a < 256 ∧ n = 0)) ∧ (x = 1 ∨ x = 2) ∧
  kb (p * 19) = nI w ∧ kb (p * 19 + 1) = nI a ∧ kb (p * 19 + 2) = nI x ∧ kl p = nI (n + 3) ∧
  kw q = nI w ∧ kh q = nI a ∧ kf q = nI x ∧ kz q = nI n ∧ ∀ j, j < n → kb (p * 19 + 3 + j) = ky (16 * q + j)
def bk_K (kc kb kl kw kh kf kz ky : Nat → Int32) (s : Nat) : Prop :=
  ∃ c, c ≤ 6 ∧ kc s = nI c ∧ ∀ i, i < c → ∃ w a x n, bk_K1 kb kl kw kh kf kz ky (s * 7 + i) (6 * s + i) w a x n
