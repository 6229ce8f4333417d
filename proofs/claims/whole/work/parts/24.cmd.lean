/-! what a command asks -/
def bk_Beg (b v : Nat) : Prop := (v = 1 ∧ b % 2 = 1) ∨ (v = 2 ∧ 2 ≤ b)
theorem bk_bit1 : ∀ b, b < 4 → ((nI b &&& nI 1 = 0 ↔ b % 2 ≠ 1) ∧ (((nI b >>> ((nI 1 - 1) &&& 31)) &&& 1) = 1 ↔ b % 2 = 1)) := by decide +kernel
theorem bk_bit2 : ∀ b, b < 4 → ((nI b &&& nI 2 = 0 ↔ ¬ 2 ≤ b) ∧ (((nI b >>> ((nI 2 - 1) &&& 31)) &&& 1) = 1 ↔ 2 ≤ b)) := by decide +kernel
theorem bk_bor : ∀ b, b < 4 → ∀ v, v < 3 → ∃ c, c < 4 ∧ nI b ||| nI v = nI c := by
  intro b hb v hv
  have h : b = 0 ∨ b = 1 ∨ b = 2 ∨ b = 3 := by omega
  have h2 : v = 0 ∨ v = 1 ∨ v = 2 := by omega
  rcases h with rfl | rfl | rfl | rfl <;> rcases h2 with rfl | rfl | rfl
  · exact ⟨0, by omega, by decide⟩
  · exact ⟨1, by omega, by decide⟩
  · exact ⟨2, by omega, by decide⟩
  · exact ⟨1, by omega, by decide⟩
  · exact ⟨1, by omega, by decide⟩
  · exact ⟨3, by omega, by decide⟩
  · exact ⟨2, by omega, by decide⟩
  · exact ⟨3, by omega, by decide⟩
  · exact ⟨2, by omega, by decide⟩
  · exact ⟨3, by omega, by decide⟩
  · exact ⟨3, by omega, by decide⟩
  · exact ⟨3, by omega, by decide⟩
theorem bk_band : ∀ b, b < 4 → ∀ v, v < 3 → ∃ c, c < 4 ∧ nI b &&& (nI v ^^^ (-1)) = nI c := by
  intro b hb v hv
  have h : b = 0 ∨ b = 1 ∨ b = 2 ∨ b = 3 := by omega
  have h2 : v = 0 ∨ v = 1 ∨ v = 2 := by omega
  rcases h with rfl | rfl | rfl | rfl <;> rcases h2 with rfl | rfl | rfl
  · exact ⟨0, by omega, by decide⟩
  · exact ⟨0, by omega, by decide⟩
  · exact ⟨0, by omega, by decide⟩
  · exact ⟨1, by omega, by decide⟩
  · exact ⟨0, by omega, by decide⟩
  · exact ⟨1, by omega, by decide⟩
  · exact ⟨2, by omega, by decide⟩
  · exact ⟨2, by omega, by decide⟩
  · exact ⟨0, by omega, by decide⟩
  · exact ⟨3, by omega, by decide⟩
  · exact ⟨2, by omega, by decide⟩
  · exact ⟨1, by omega, by decide⟩
section ASK
variable {B : Nat} {A : Nat → List bk_E} {g : Nat → Nat} {st lf cd bg gv ob ol pb pn xp fh fl fa mk cb mi mb ml pa kb kl kc th pl md cr hc hg hi ib il it qi qc gc lc lr co ta yp ki le go la ps pd pt kw kh kf kz ky wh od tg tr so bd wo be : Nat → Int32} {px fr en ma wr : Int32}
theorem xk_isBegun {post : Int32 → Prop} {s b v : Nat} (hs : s < 4) (hb : bg s = nI b) (hb4 : b < 4) (hv : v < 256) (h1 : bk_Beg b v → post 1) (h0 : ¬ bk_Beg b v → post 0) : wpX_isBegun post (px, st, lf, cd, bg, gv, ob, ol, pb, pn, xp, fh, fl, fa, mk, cb, mi, mb, ml, pa, kb, kl, kc, th, pl, md, cr, hc, hg, hi, ib, il, it, qi, qc, gc, lc, lr, co) (nI s) (nI v) := by
  have cs : (nI s).toNatClampNeg = s := nI_clamp (by omega)
  refine pk_eq v 1 (fun e => ?_) (fun e => pk_eq v 2 (fun e2 => ?_) (fun e2 => h0 (fun z => ?_)))
  · subst e
    refine ⟨pk_in s 4 hs, ?_⟩
    rw [cs, hb]
    refine br_c (fun z => h0 (fun w => ?_)) (fun z => h1 (Or.inl ⟨rfl, ?_⟩))
    · have := (bk_bit1 b hb4).1.mp z
      rcases w with w | w <;> omega
    · apply Classical.byContradiction
      intro w
      exact z ((bk_bit1 b hb4).1.mpr w)
  · subst e2
    refine ⟨pk_in s 4 hs, ?_⟩
    rw [cs, hb]
    refine br_c (fun z => h0 (fun w => ?_)) (fun z => h1 (Or.inr ⟨rfl, ?_⟩))
    · have := (bk_bit2 b hb4).1.mp z
      rcases w with w | w <;> omega
    · apply Classical.byContradiction
      intro w
      exact z ((bk_bit2 b hb4).1.mpr w)
  · rcases z with z | z <;> omega
theorem yk_may {post : Int32 → Prop} {s b v : Nat} (hs : s < 4) (hb : bg s = nI b) (hb4 : b < 4) (hv : v < 256) (h1 : (v = 0 ∨ bk_Beg b v) → post 1) (h0 : ¬ (v = 0 ∨ bk_Beg b v) → post 0) : wpY_may post (fr, en, ma, wr, st, lf, cd, ta, bg, kc, ob, ol, pb, pn, yp, ki, le, go, mk, cb, mb, ml, la, ps, pd, pt, kw, kh, kf, kz, ky, th, pl, md, cr, gc, lc, lr, wh, od, tg, tr, so, bd, wo, be) (nI s) (nI v) := by
  have cs : (nI s).toNatClampNeg = s := nI_clamp (by omega)
  refine pk_eq v 0 (fun e => h1 (Or.inl e)) (fun e0 => pk_eq v 1 (fun e => ?_) (fun e => pk_eq v 2 (fun e2 => ?_) (fun e2 => h0 (fun z => ?_))))
  · subst e
    refine ⟨pk_in s 4 hs, ?_⟩
    rw [cs, hb]
    refine br_c (fun z => h1 (Or.inr (Or.inl ⟨rfl, (bk_bit1 b hb4).2.mp z⟩))) (fun z => h0 (fun w => z ((bk_bit1 b hb4).2.mpr ?_)))
    rcases w with w | w | w <;> omega
  · subst e2
    refine ⟨pk_in s 4 hs, ?_⟩
    rw [cs, hb]
    refine br_c (fun z => h1 (Or.inr (Or.inr ⟨rfl, (bk_bit2 b hb4).2.mp z⟩))) (fun z => h0 (fun w => z ((bk_bit2 b hb4).2.mpr ?_)))
    rcases w with w | w | w <;> omega
  · rcases z with z | z | z <;> omega
theorem xk_mayBeIn {post : Int32 → Prop} {s b v c : Nat} (hs : s < 4) (hb : bg s = nI b) (hb4 : b < 4) (hv : v < 256) (hc' : kc s = nI c) (hc6 : c ≤ 6) (h1 : (v = 0 ∨ (bk_Beg b v ∧ c < 6)) → post 1) (h0 : ¬ (v = 0 ∨ (bk_Beg b v ∧ c < 6)) → post 0) : wpX_mayBeIn post (px, st, lf, cd, bg, gv, ob, ol, pb, pn, xp, fh, fl, fa, mk, cb, mi, mb, ml, pa, kb, kl, kc, th, pl, md, cr, hc, hg, hi, ib, il, it, qi, qc, gc, lc, lr, co) (nI s) (nI v) := by
  have cs : (nI s).toNatClampNeg = s := nI_clamp (by omega)
  refine pk_eq v 0 (fun e => h1 (Or.inl e)) (fun e0 => ?_)
  refine xk_isBegun hs hb hb4 hv (fun w => br_f (by decide) ⟨pk_in s 4 hs, ?_⟩) (fun w => br_t rfl (h0 (fun z => ?_)))
  · rw [cs, hc']
    refine pk_le 6 c (fun z => h0 (fun y => ?_)) (fun z => h1 (Or.inr ⟨w, z⟩))
    rcases y with y | y
    · exact e0 y
    · omega
  · rcases z with z | z
    · exact e0 z
    · exact w z.1
theorem xk_isPlace {post : Int32 → Prop} {v : Nat} (hv : v < 256) (h1 : v < 6 → post 1) (h0 : 6 ≤ v → post 0) : wpX_isPlace post (px, st, lf, cd, bg, gv, ob, ol, pb, pn, xp, fh, fl, fa, mk, cb, mi, mb, ml, pa, kb, kl, kc, th, pl, md, cr, hc, hg, hi, ib, il, it, qi, qc, gc, lc, lr, co) (nI v) :=
  br_f (nI_pos (by omega)) (pk_le 6 v h0 h1)
end ASK
