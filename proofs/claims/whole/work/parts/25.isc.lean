/-! which messages are commands -/
def bk_Vd (th : Nat → Int32) (s m b c : Nat) (v : Nat → Nat) : Prop :=
  (v 0 = 1 ∧ m = 5 ∧ v 1 < 4 ∧ th (4 * s + v 1) = 0 ∧ v 2 < 6 ∧ v 3 < 3 ∧ 1 ≤ v 4 ∧ v 4 ≤ 5) ∨
  (v 0 = 2 ∧ m = 2 ∧ v 1 < 4 ∧ th (4 * s + v 1) ≠ 0) ∨
  (v 0 = 3 ∧ 4 ≤ m ∧ m ≤ 19 ∧ v 1 < 6 ∧ (v 2 = 0 ∨ (bk_Beg b (v 2) ∧ c < 6))) ∨
  (v 0 = 4 ∧ m = 3 ∧ (v 2 = 0 ∨ (bk_Beg b (v 2) ∧ c < 6))) ∨
  (v 0 = 5 ∧ m = 3 ∧ (v 2 = 0 ∨ (bk_Beg b (v 2) ∧ c < 6))) ∨
  (v 0 = 6 ∧ m = 2 ∧ (v 1 = 1 ∨ v 1 = 2) ∧ ¬ bk_Beg b (v 1)) ∨
  (v 0 = 7 ∧ m = 2 ∧ bk_Beg b (v 1)) ∨
  (v 0 = 8 ∧ m = 2 ∧ bk_Beg b (v 1)) ∨
  (v 0 = 9 ∧ m = 2)
section VD
variable {th : Nat → Int32} {s m b c : Nat} {v : Nat → Nat}
theorem vd_0 (h : v 0 = 0 ∨ 10 ≤ v 0) : ¬ bk_Vd th s m b c v := by
  unfold bk_Vd
  rintro (z | z | z | z | z | z | z | z | z) <;> omega
theorem vd_1 (h : v 0 = 1) : bk_Vd th s m b c v ↔ (m = 5 ∧ v 1 < 4 ∧ th (4 * s + v 1) = 0 ∧ v 2 < 6 ∧ v 3 < 3 ∧ 1 ≤ v 4 ∧ v 4 ≤ 5) := by
  unfold bk_Vd
  constructor
  · rintro (z | z | z | z | z | z | z | z | z) <;> first | exact z.2 | (exfalso; omega)
  · intro z; exact Or.inl ⟨h, z⟩
theorem vd_2 (h : v 0 = 2) : bk_Vd th s m b c v ↔ (m = 2 ∧ v 1 < 4 ∧ th (4 * s + v 1) ≠ 0) := by
  unfold bk_Vd
  constructor
  · rintro (z | z | z | z | z | z | z | z | z) <;> first | exact z.2 | (exfalso; omega)
  · intro z; exact Or.inr (Or.inl ⟨h, z⟩)
theorem vd_3 (h : v 0 = 3) : bk_Vd th s m b c v ↔ (4 ≤ m ∧ m ≤ 19 ∧ v 1 < 6 ∧ (v 2 = 0 ∨ (bk_Beg b (v 2) ∧ c < 6))) := by
  unfold bk_Vd
  constructor
  · rintro (z | z | z | z | z | z | z | z | z) <;> first | exact z.2 | (exfalso; omega)
  · intro z; exact Or.inr (Or.inr (Or.inl ⟨h, z⟩))
theorem vd_4 (h : v 0 = 4) : bk_Vd th s m b c v ↔ (m = 3 ∧ (v 2 = 0 ∨ (bk_Beg b (v 2) ∧ c < 6))) := by
  unfold bk_Vd
  constructor
  · rintro (z | z | z | z | z | z | z | z | z) <;> first | exact z.2 | (exfalso; omega)
  · intro z; exact Or.inr (Or.inr (Or.inr (Or.inl ⟨h, z⟩)))
theorem vd_5 (h : v 0 = 5) : bk_Vd th s m b c v ↔ (m = 3 ∧ (v 2 = 0 ∨ (bk_Beg b (v 2) ∧ c < 6))) := by
  unfold bk_Vd
  constructor
  · rintro (z | z | z | z | z | z | z | z | z) <;> first | exact z.2 | (exfalso; omega)
  · intro z; exact Or.inr (Or.inr (Or.inr (Or.inr (Or.inl ⟨h, z⟩))))
theorem vd_6 (h : v 0 = 6) : bk_Vd th s m b c v ↔ (m = 2 ∧ (v 1 = 1 ∨ v 1 = 2) ∧ ¬ bk_Beg b (v 1)) := by
  unfold bk_Vd
  constructor
  · rintro (z | z | z | z | z | z | z | z | z) <;> first | exact z.2 | (exfalso; omega)
  · intro z; exact Or.inr (Or.inr (Or.inr (Or.inr (Or.inr (Or.inl ⟨h, z⟩)))))
theorem vd_7 (h : v 0 = 7) : bk_Vd th s m b c v ↔ (m = 2 ∧ bk_Beg b (v 1)) := by
  unfold bk_Vd
  constructor
  · rintro (z | z | z | z | z | z | z | z | z) <;> first | exact z.2 | (exfalso; omega)
  · intro z; exact Or.inr (Or.inr (Or.inr (Or.inr (Or.inr (Or.inr (Or.inl ⟨h, z⟩))))))
theorem vd_8 (h : v 0 = 8) : bk_Vd th s m b c v ↔ (m = 2 ∧ bk_Beg b (v 1)) := by
  unfold bk_Vd
  constructor
  · rintro (z | z | z | z | z | z | z | z | z) <;> first | exact z.2 | (exfalso; omega)
  · intro z; exact Or.inr (Or.inr (Or.inr (Or.inr (Or.inr (Or.inr (Or.inr (Or.inl ⟨h, z⟩)))))))
theorem vd_9 (h : v 0 = 9) : bk_Vd th s m b c v ↔ (m = 2) := by
  unfold bk_Vd
  constructor
  · rintro (z | z | z | z | z | z | z | z | z) <;> first | exact z.2 | (exfalso; omega)
  · intro z; exact Or.inr (Or.inr (Or.inr (Or.inr (Or.inr (Or.inr (Or.inr (Or.inr (⟨h, z⟩))))))))
end VD
section ISC
variable {B : Nat} {A : Nat → List bk_E} {g : Nat → Nat} {st lf cd bg gv ob ol pb pn xp fh fl fa mk cb mi mb ml pa kb kl kc th pl md cr hc hg hi ib il it qi qc gc lc lr co ta yp ki le go la ps pd pt kw kh kf kz ky wh od tg tr so bd wo be : Nat → Int32} {px fr en ma wr : Int32}
theorem bk_code (x : Nat) : (x = 0 ∨ 10 ≤ x) ∨ x = 1 ∨ x = 2 ∨ x = 3 ∨ x = 4 ∨ x = 5 ∨ x = 6 ∨ x = 7 ∨ x = 8 ∨ x = 9 := by omega
theorem xk_isCommand {post : Int32 → Prop} {s m b c : Nat} {v : Nat → Nat} (hs : s < 4) (hm : m ≤ 200) (hv : ∀ j, v j < 256) (hpa : ∀ j, j < m → pa j = nI (v j)) (hb : bg s = nI b) (hb4 : b < 4) (hc' : kc s = nI c) (hc6 : c ≤ 6)
    (h1 : 1 ≤ m → bk_Vd th s m b c v → post 1) (h0 : (m = 0 ∨ ¬ bk_Vd th s m b c v) → post 0) : wpX_isCommand post (nI m, st, lf, cd, bg, gv, ob, ol, pb, pn, xp, fh, fl, fa, mk, cb, mi, mb, ml, pa, kb, kl, kc, th, pl, md, cr, hc, hg, hi, ib, il, it, qi, qc, gc, lc, lr, co) (nI s) := by
  have h01 : narrow .boolean (.int 0) = .int 0 := bn_n0
  have h11 : narrow .boolean (.int 1) = .int 1 := bn_n1
  have hv0 := hv 0
  have hv1 := hv 1
  have hv2 := hv 2
  have hv3 := hv 3
  have hv4 := hv 4
  refine pk_eq m 0 (fun e => h0 (Or.inl e)) (fun e => nm_r (hpa 0 (by omega)) ?_)
  have h0' : ¬ bk_Vd th s m b c v → post 0 := fun z => h0 (Or.inr z)
  have h1' : bk_Vd th s m b c v → post 1 := h1 (by omega)
  have e4 : v 1 < 4 → nI s * 4 + nI (v 1) = nI (4 * s + v 1) ∧ (nI (4 * s + v 1)).toNatClampNeg = 4 * s + v 1 := fun g => ⟨by rw [bn_mul, nI_add, Nat.mul_comm], nI_clamp (by omega)⟩
  rcases bk_code (v 0) with k | k | k | k | k | k | k | k | k | k
  · have n := vd_0 (th := th) (s := s) (m := m) (b := b) (c := c) k
    exact pk_lt (v 0) 1 (fun _ => h0' n) (fun g => pk_lt 9 (v 0) (fun _ => h0' n) (fun g2 => by omega))
  · rw [vd_1 k] at h0' h1'
    rw [k]
    refine br_f (by decide) (br_f (by decide) (br_t rfl (pk_eq m 5 (fun e5 => ?_) (fun e5 => ⟨h01, h0' (fun z => e5 z.1)⟩))))
    rw [hpa 1 (by omega), hpa 2 (by omega), hpa 3 (by omega), hpa 4 (by omega)]
    refine pk_le 4 (v 1) (fun g => ⟨h01, h0' (fun z => by omega)⟩) (fun g => ?_)
    rw [(e4 g).1, (e4 g).2]
    refine ⟨vp_in_nI (by omega) (by omega), br_c (fun g2 => xk_isPlace hv2 (fun g3 => br_f (by decide) ?_) (fun g3 => br_t rfl ⟨h01, h0' (fun z => by omega)⟩)) (fun g2 => ⟨h01, h0' (fun z => g2 z.2.2.1)⟩)⟩
    refine pk_le 3 (v 3) (fun g4 => ⟨h01, h0' (fun z => by omega)⟩) (fun g4 => pk_lt (v 4) 1 (fun g5 => ⟨h01, h0' (fun z => by omega)⟩) (fun g5 => pk_lt 5 (v 4) (fun g6 => ⟨h01, h0' (fun z => by omega)⟩) (fun g6 => ⟨h11, h1' ⟨e5, g, g2, g3, g4, g5, g6⟩⟩)))
  · rw [vd_2 k] at h0' h1'
    rw [k]
    refine br_f (by decide) (br_f (by decide) (br_f (by decide) (br_t rfl (pk_eq m 2 (fun e5 => ?_) (fun e5 => h0' (fun z => e5 z.1))))))
    rw [hpa 1 (by omega)]
    refine pk_le 4 (v 1) (fun g => h0' (fun z => by omega)) (fun g => ?_)
    rw [(e4 g).1, (e4 g).2]
    exact ⟨vp_in_nI (by omega) (by omega), br_c (fun g2 => h0' (fun z => z.2.2 g2)) (fun g2 => h1' ⟨e5, g, g2⟩)⟩
  · rw [vd_3 k] at h0' h1'
    rw [k]
    refine br_f (by decide) (br_f (by decide) (br_f (by decide) (br_f (by decide) (br_t rfl (pk_le m 3 (fun e5 => h0' (fun z => by omega)) (fun e5 => pk_lt 19 m (fun e6 => h0' (fun z => by omega)) (fun e6 => ?_)))))))
    rw [hpa 1 (by omega), hpa 2 (by omega)]
    refine xk_isPlace hv1 (fun g => br_f (by decide) ?_) (fun g => br_t rfl (h0' (fun z => by omega)))
    exact xk_mayBeIn hs hb hb4 hv2 hc' hc6 (fun w => br_f (by decide) (h1' ⟨e5, e6, g, w⟩)) (fun w => br_t rfl (h0' (fun z => w z.2.2.2)))
  · rw [vd_4 k] at h0' h1'
    rw [k]
    refine br_f (by decide) (br_f (by decide) (br_f (by decide) (br_f (by decide) (br_f (by decide) (br_t rfl (pk_eq m 3 (fun e5 => ?_) (fun e5 => h0' (fun z => e5 z.1))))))))
    rw [hpa 2 (by omega)]
    exact xk_mayBeIn hs hb hb4 hv2 hc' hc6 (fun w => br_f (by decide) (h1' ⟨e5, w⟩)) (fun w => br_t rfl (h0' (fun z => w z.2)))
  · rw [vd_5 k] at h0' h1'
    rw [k]
    refine br_f (by decide) (br_f (by decide) (br_f (by decide) (br_f (by decide) (br_f (by decide) (br_f (by decide) (br_t rfl (pk_eq m 3 (fun e5 => ?_) (fun e5 => h0' (fun z => e5 z.1)))))))))
    rw [hpa 2 (by omega)]
    exact xk_mayBeIn hs hb hb4 hv2 hc' hc6 (fun w => br_f (by decide) (h1' ⟨e5, w⟩)) (fun w => br_t rfl (h0' (fun z => w z.2)))
  · rw [vd_6 k] at h0' h1'
    rw [k]
    refine br_f (by decide) (br_f (by decide) (br_f (by decide) (br_f (by decide) (br_f (by decide) (br_f (by decide) (br_f (by decide) (br_t rfl (pk_eq m 2 (fun e5 => ?_) (fun e5 => h0' (fun z => e5 z.1))))))))))
    have fin : (v 1 = 1 ∨ v 1 = 2) → wX_isCommand_218 post (nI s) (nI m) st lf cd bg gv ob ol pb pn xp fh fl fa mk cb mi mb ml pa kb kl kc th pl md cr hc hg hi ib il it qi qc gc lc lr co := by
      intro w
      show wpX_isBegun _ _ _ (pa 1)
      rw [hpa 1 (by omega)]
      exact xk_isBegun hs hb hb4 hv1 (fun w2 => br_f (by decide) (h0' (fun z => z.2.2 w2))) (fun w2 => br_t rfl (h1' ⟨e5, w, w2⟩))
    rw [hpa 1 (by omega)]
    exact pk_eq (v 1) 1 (fun w => fin (Or.inl w)) (fun w => pk_eq (v 1) 2 (fun w => fin (Or.inr w)) (fun w' => h0' (fun z => by omega)))
  · rw [vd_7 k] at h0' h1'
    rw [k]
    refine br_f (by decide) (br_f (by decide) (br_f (by decide) (br_f (by decide) (br_f (by decide) (br_f (by decide) (br_f (by decide) (br_f (by decide) (br_t rfl (pk_eq m 2 (fun e5 => ?_) (fun e5 => h0' (fun z => e5 z.1)))))))))))
    rw [hpa 1 (by omega)]
    exact xk_isBegun hs hb hb4 hv1 (fun w2 => br_f (by decide) (h1' ⟨e5, w2⟩)) (fun w2 => br_t rfl (h0' (fun z => w2 z.2)))
  · rw [vd_8 k] at h0' h1'
    rw [k]
    refine br_f (by decide) (br_f (by decide) (br_f (by decide) (br_f (by decide) (br_f (by decide) (br_f (by decide) (br_f (by decide) (br_f (by decide) (br_f (by decide) (br_t rfl (pk_eq m 2 (fun e5 => ?_) (fun e5 => h0' (fun z => e5 z.1))))))))))))
    rw [hpa 1 (by omega)]
    exact xk_isBegun hs hb hb4 hv1 (fun w2 => br_f (by decide) (h1' ⟨e5, w2⟩)) (fun w2 => br_t rfl (h0' (fun z => w2 z.2)))
  · rw [vd_9 k] at h0' h1'
    rw [k]
    exact br_f (by decide) (br_f (by decide) (br_f (by decide) (br_f (by decide) (br_f (by decide) (br_f (by decide) (br_f (by decide) (br_f (by decide) (br_f (by decide) (br_f (by decide) (br_t rfl (pk_eq m 2 (fun e5 => h1' e5) (fun e5 => h0' (fun z => e5 z)))))))))))))
end ISC
