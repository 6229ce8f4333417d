/-! what is written -/
def bk_wf (ob : Nat → Int32) (s a : Nat) (f : Nat → Int32) : Nat → Nat → Int32
  | 0 => ob
  | n + 1 => upd (bk_wf ob s a f n) (240 * s + (a + n)) (f n)
theorem bk_wf_congr (ob : Nat → Int32) (s a : Nat) (f f' : Nat → Int32) : ∀ n, (∀ j, j < n → f j = f' j) → bk_wf ob s a f n = bk_wf ob s a f' n
  | 0, _ => rfl
  | n + 1, h => by
    unfold bk_wf
    rw [bk_wf_congr ob s a f f' n (fun j hj => h j (by omega)), h n (by omega)]
/-- the head of a message that gives: five bytes -/
def bk_hd (ob : Nat → Int32) (s a : Nat) (n r g : Nat) : Nat → Int32 :=
  upd (upd (upd (upd (upd ob (240 * s + a) 129) (240 * s + (a + 1)) (nI (n + 3))) (240 * s + (a + 2)) 1) (240 * s + (a + 3)) (nI (r % 4))) (240 * s + (a + 4)) (nI (g % 256))
section LEAF
variable {B : Nat} {A : Nat → List bk_E} {g : Nat → Nat} {st lf cd bg gv ob ol pb pn xp fh fl fa mk cb mi mb ml pa kb kl kc th pl md cr hc hg hi ib il it qi qc gc lc lr co ta yp ki le go la ps pd pt kw kh kf kz ky wh od tg tr so bd wo be : Nat → Int32} {px fr en ma wr : Int32}
theorem xk_put {post : SX → Prop} {s a : Nat} {v : Int32} (hs : s < 4) (ha : ol s = nI a) (h : a < 240) (hp : post (px, st, lf, cd, bg, gv, upd ob (240 * s + a) v, upd ol s (nI (a + 1)), pb, pn, xp, fh, fl, fa, mk, cb, mi, mb, ml, pa, kb, kl, kc, th, pl, md, cr, hc, hg, hi, ib, il, it, qi, qc, gc, lc, lr, co)) : wpX_put post (px, st, lf, cd, bg, gv, ob, ol, pb, pn, xp, fh, fl, fa, mk, cb, mi, mb, ml, pa, kb, kl, kc, th, pl, md, cr, hc, hg, hi, ib, il, it, qi, qc, gc, lc, lr, co) (nI s) v := by
  have cs : (nI s).toNatClampNeg = s := nI_clamp (by omega)
  have ix : nI s * 240 + nI a = nI (240 * s + a) := by rw [bn_mul, nI_add, Nat.mul_comm]
  have ci : (nI (240 * s + a)).toNatClampNeg = 240 * s + a := nI_clamp (by omega)
  have i4 : vp_in (nI s) 4 := pk_in s 4 hs
  simp only [wpX_put, cs, ha, ix, ci, nI_1, forall_eq]
  exact ⟨i4, pk_in (240 * s + a) 960 (by omega), i4, i4, hp⟩
theorem yk_put {post : SY → Prop} {s a : Nat} {v : Int32} (hs : s < 4) (ha : ol s = nI a) (h : a < 240) (hp : post (fr, en, ma, wr, st, lf, cd, ta, bg, kc, upd ob (240 * s + a) v, upd ol s (nI (a + 1)), pb, pn, yp, ki, le, go, mk, cb, mb, ml, la, ps, pd, pt, kw, kh, kf, kz, ky, th, pl, md, cr, gc, lc, lr, wh, od, tg, tr, so, bd, wo, be)) : wpY_put post (fr, en, ma, wr, st, lf, cd, ta, bg, kc, ob, ol, pb, pn, yp, ki, le, go, mk, cb, mb, ml, la, ps, pd, pt, kw, kh, kf, kz, ky, th, pl, md, cr, gc, lc, lr, wh, od, tg, tr, so, bd, wo, be) (nI s) v := by
  have cs : (nI s).toNatClampNeg = s := nI_clamp (by omega)
  have ix : 240 * nI s + nI a = nI (240 * s + a) := by rw [bn_mul2, nI_add]
  have ci : (nI (240 * s + a)).toNatClampNeg = 240 * s + a := nI_clamp (by omega)
  have i4 : vp_in (nI s) 4 := pk_in s 4 hs
  simp only [wpY_put, cs, ha, ix, ci, nI_1, forall_eq]
  exact ⟨i4, pk_in (240 * s + a) 960 (by omega), i4, i4, hp⟩
theorem xk_startFrame {post : SX → Prop} {s a : Nat} {k v : Int32} (hs : s < 4) (ha : ol s = nI a) (h : a + 1 < 240) (hp : post (px, st, lf, cd, bg, gv, upd (upd ob (240 * s + a) (128 + k)) (240 * s + (a + 1)) v, upd ol s (nI (a + 2)), pb, pn, xp, fh, fl, fa, mk, cb, mi, mb, ml, pa, kb, kl, kc, th, pl, md, cr, hc, hg, hi, ib, il, it, qi, qc, gc, lc, lr, co)) : wpX_startFrame post (px, st, lf, cd, bg, gv, ob, ol, pb, pn, xp, fh, fl, fa, mk, cb, mi, mb, ml, pa, kb, kl, kc, th, pl, md, cr, hc, hg, hi, ib, il, it, qi, qc, gc, lc, lr, co) (nI s) k v := by
  have cs : (nI s).toNatClampNeg = s := nI_clamp (by omega)
  have ix : nI s * 240 + nI a = nI (240 * s + a) := by rw [bn_mul, nI_add, Nat.mul_comm]
  have ci : (nI (240 * s + a)).toNatClampNeg = 240 * s + a := nI_clamp (by omega)
  have ci' : (nI (240 * s + a + 1)).toNatClampNeg = 240 * s + (a + 1) := nI_clamp (by omega)
  have a2 : nI a + 2 = nI (a + 2) := bn_add a 2
  have i4 : vp_in (nI s) 4 := pk_in s 4 hs
  simp only [wpX_startFrame, cs, ha, ix, ci, ci', nI_1, a2, forall_eq]
  exact ⟨i4, pk_in (240 * s + a) 960 (by omega), pk_in (240 * s + a + 1) 960 (by omega), i4, i4, hp⟩
theorem xk_hasRoom {post : Int32 → Prop} {s a n : Nat} (hs : s < 4) (ha : ol s = nI a) (h : a ≤ 240) (hn : n ≤ 70000) (h1 : a + 2 + n ≤ 240 → post 1) (h0 : 240 < a + 2 + n → post 0) : wpX_hasRoom post (px, st, lf, cd, bg, gv, ob, ol, pb, pn, xp, fh, fl, fa, mk, cb, mi, mb, ml, pa, kb, kl, kc, th, pl, md, cr, hc, hg, hi, ib, il, it, qi, qc, gc, lc, lr, co) (nI s) (nI n) := by
  have cs : (nI s).toNatClampNeg = s := nI_clamp (by omega)
  have ix : nI a + 2 + nI n = nI (a + 2 + n) := by rw [bn_add, nI_add]
  simp only [wpX_hasRoom, cs, ha, ix]
  exact ⟨pk_in s 4 hs, pk_lt 240 (a + 2 + n) h0 h1⟩
/-- who can take a body of n bytes from place t -/
def bk_Can (A : Nat → List bk_E) (st ol th pl md cr : Nat → Int32) (r t n : Nat) : Prop :=
  th r = 1 ∧ pl r = nI t ∧ st (r / 4) = 1 ∧ (∃ a, ol (r / 4) = nI a ∧ a + 5 + n ≤ 240) ∧ (md r = 0 ∨ ∃ c, cr r = nI c ∧ c ≤ 5 ∧ (A (3 + r)).length < c)
theorem xk_canTake {post : Int32 → Prop} {r t n : Nat} (h : bk_C B A g st ol th pl md cr lr gv ib il it qi qc ta wh od tg tr so bd fr en) (rh : bk_RH A hi hg hc) (hr : r < 16) (ht : t < 6) (hn : n ≤ 65536) (h1 : bk_Can A st ol th pl md cr r t n → post 1) (h0 : ¬ bk_Can A st ol th pl md cr r t n → post 0) : wpX_canTake post (px, st, lf, cd, bg, gv, ob, ol, pb, pn, xp, fh, fl, fa, mk, cb, mi, mb, ml, pa, kb, kl, kc, th, pl, md, cr, hc, hg, hi, ib, il, it, qi, qc, gc, lc, lr, co) (nI r) (nI t) (nI n) := by
  have cr' : (nI r).toNatClampNeg = r := nI_clamp (by omega)
  have ix : nI r / 4 = nI (r / 4) := bn_div r 4 (by omega) (by decide) (by decide)
  have cs : (nI (r / 4)).toNatClampNeg = r / 4 := nI_clamp (by omega)
  have a3 : 3 + nI n = nI (3 + n) := bn_add2 n 3
  have ir : vp_in (nI r) 16 := pk_in r 16 hr
  have hl := (dk_len h).2 r hr
  have hc' := (rh r hr).1
  obtain ⟨_, _, _, ⟨a, ha, ea⟩, _⟩ := h.2.2.2.1 (r / 4) (by omega)
  have g1 := h.2.2.1 r hr
  simp only [wpX_canTake, cr', ix, cs, a3, forall_eq]
  refine ⟨by decide, ir, br_c (fun e => ?_) (fun e => ⟨ir, br_c (fun e2 => ⟨pk_in (r / 4) 4 (by omega), br_c (fun e3 => ?_) (fun e3 => ?_)⟩) (fun e2 => ?_)⟩)⟩
  · exact h0 (fun z => absurd (e.symm.trans z.1) (by decide))
  · rcases g1 with ⟨g1, _⟩ | ⟨g1, t', m, c, k1, k2, k3, k4, k5, k6, k7, k8, k9⟩
    · exact absurd g1 e
    refine xk_hasRoom (by omega) ea ha (by omega) (fun room => ?_) (fun room => ?_)
    · refine br_f (by decide) ⟨ir, ?_⟩
      refine br_c (fun e4 => h1 ⟨g1, e2, e3, ⟨a, ea, by omega⟩, Or.inl e4⟩) (fun e4 => ⟨ir, ir, ?_⟩)
      rw [k5, hc']
      refine pk_le c (A (3 + r)).length (fun z => ?_) (fun z => ?_)
      · refine h0 (fun w => ?_)
        rcases w.2.2.2.2 with w | ⟨c', w1, w2, w3⟩
        · exact e4 w
        · rw [k5] at w1
          have := (nI_eq (by omega) (by omega)).mp w1
          omega
      · exact h1 ⟨g1, e2, e3, ⟨a, ea, by omega⟩, Or.inr ⟨c, k5, k7, z⟩⟩
    · refine br_t rfl (h0 (fun w => ?_))
      obtain ⟨a', w1, w2⟩ := w.2.2.2.1
      rw [ea] at w1
      have := (nI_eq (by omega) (by omega)).mp w1
      omega
  · exact h0 (fun w => e3 w.2.2.1)
  · exact h0 (fun w => e2 w.2.1)
theorem yk_can {post : Int32 → Prop} {r t n : Nat} (h : bk_C B A g st ol th pl md cr lr gv ib il it qi qc ta wh od tg tr so bd fr en) (hr : r < 16) (ht : t < 6) (hn : n ≤ 65536) (h1 : bk_Can A st ol th pl md cr r t n → post 1) (h0 : ¬ bk_Can A st ol th pl md cr r t n → post 0) : wpY_can post (fr, en, ma, wr, st, lf, cd, ta, bg, kc, ob, ol, pb, pn, yp, ki, le, go, mk, cb, mb, ml, la, ps, pd, pt, kw, kh, kf, kz, ky, th, pl, md, cr, gc, lc, lr, wh, od, tg, tr, so, bd, wo, be) (nI r) (nI t) (nI n) := by
  have cr' : (nI r).toNatClampNeg = r := nI_clamp (by omega)
  have ix : nI r / 4 = nI (r / 4) := bn_div r 4 (by omega) (by decide) (by decide)
  have cs : (nI (r / 4)).toNatClampNeg = r / 4 := nI_clamp (by omega)
  have a3 : 3 + nI r = nI (3 + r) := bn_add2 r 3
  have ir : vp_in (nI r) 16 := pk_in r 16 hr
  have hl := (dk_len h).2 r hr
  obtain ⟨_, _, _, ⟨a, ha, ea⟩, _⟩ := h.2.2.2.1 (r / 4) (by omega)
  have ix5 : nI a + nI n + 5 = nI (a + n + 5) := by rw [nI_add, bn_add]
  have g1 := h.2.2.1 r hr
  simp only [wpY_can, cr', ix, cs, a3, forall_eq]
  refine ⟨by decide, yk_countL h (by omega) ?_⟩
  rw [ea, ix5]
  refine ⟨ir, br_c (fun e => ?_) (fun e => ⟨ir, br_c (fun e2 => ⟨pk_in (r / 4) 4 (by omega), br_c (fun e3 => ⟨pk_in (r / 4) 4 (by omega), ?_⟩) (fun e3 => ?_)⟩) (fun e2 => ?_)⟩)⟩
  · exact h0 (fun z => absurd (e.symm.trans z.1) (by decide))
  · rcases g1 with ⟨g1, _⟩ | ⟨g1, t', m, c, k1, k2, k3, k4, k5, k6, k7, k8, k9⟩
    · exact absurd g1 e
    refine pk_lt 240 (a + n + 5) (fun room => ?_) (fun room => ⟨ir, ?_⟩)
    · refine h0 (fun w => ?_)
      obtain ⟨a', w1, w2⟩ := w.2.2.2.1
      rw [ea] at w1
      have := (nI_eq (by omega) (by omega)).mp w1
      omega
    · refine br_c (fun e4 => h1 ⟨g1, e2, e3, ⟨a, ea, by omega⟩, Or.inl e4⟩) (fun e4 => ⟨ir, ?_⟩)
      rw [k5]
      refine pk_le c (A (3 + r)).length (fun z => ?_) (fun z => ?_)
      · refine h0 (fun w => ?_)
        rcases w.2.2.2.2 with w | ⟨c', w1, w2, w3⟩
        · exact e4 w
        · rw [k5] at w1
          have := (nI_eq (by omega) (by omega)).mp w1
          omega
      · exact h1 ⟨g1, e2, e3, ⟨a, ea, by omega⟩, Or.inr ⟨c, k5, k7, z⟩⟩
  · exact h0 (fun w => e3 w.2.2.1)
  · exact h0 (fun w => e2 w.2.1)
end LEAF
