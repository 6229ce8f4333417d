/-! the bytes behind the first -/
section LOOK
variable {B : Nat} {A : Nat → List bk_E} {g : Nat → Nat} {st lf cd bg gv ob ol pb pn xp fh fl fa mk cb mi mb ml pa kb kl kc th pl md cr hc hg hi ib il it qi qc gc lc lr co ta yp ki le go la ps pd pt kw kh kf kz ky wh od tg tr so bd wo be : Nat → Int32} {px fr en ma wr : Int32}
theorem xk_isControl {post : Int32 → Prop} {s b : Nat} (hs : s < 4) (hb : b < 256) (hfh : fh s = nI b) (h0 : b % 16 < 8 → post 0) (h1 : 8 ≤ b % 16 → post 1) : wpX_isControl post (px, st, lf, cd, bg, gv, ob, ol, pb, pn, xp, fh, fl, fa, mk, cb, mi, mb, ml, pa, kb, kl, kc, th, pl, md, cr, hc, hg, hi, ib, il, it, qi, qc, gc, lc, lr, co) (nI s) := by
  have cs : (nI s).toNatClampNeg = s := nI_clamp (by omega)
  refine ⟨pk_in s 4 hs, ?_⟩
  rw [cs, hfh, bn_15 b (by omega)]
  exact pk_lt (b % 16) 8 h0 h1
theorem xk_judge {post : Int32 → SX → Prop} {s b n z : Nat} (hs : s < 4) (hb : b < 256) (hfh : fh s = nI b) (hfl : fl s = nI n) (hn : n < 100000) (hml : ml s = nI z) (hz : z ≤ 200)
    (h9 : b % 16 < 8 → 200 < z + n → post 9 (px, st, lf, cd, bg, gv, ob, ol, pb, pn, xp, fh, fl, fa, mk, cb, mi, mb, ml, pa, kb, kl, kc, th, pl, md, cr, hc, hg, hi, ib, il, it, qi, qc, gc, lc, lr, co)) (h0 : (8 ≤ b % 16 ∨ z + n ≤ 200) → post 0 (px, st, lf, cd, bg, gv, ob, ol, pb, pn, upd xp s 3, fh, fl, upd fa s 0, mk, cb, mi, mb, ml, pa, kb, kl, kc, th, pl, md, cr, hc, hg, hi, ib, il, it, qi, qc, gc, lc, lr, co)) : wpX_judgeLength post (px, st, lf, cd, bg, gv, ob, ol, pb, pn, xp, fh, fl, fa, mk, cb, mi, mb, ml, pa, kb, kl, kc, th, pl, md, cr, hc, hg, hi, ib, il, it, qi, qc, gc, lc, lr, co) (nI s) := by
  have cs : (nI s).toNatClampNeg = s := nI_clamp (by omega)
  have i4 : vp_in (nI s) 4 := pk_in s 4 hs
  have fin : (8 ≤ b % 16 ∨ z + n ≤ 200) → wX_judgeLength_30 post (nI s) px st lf cd bg gv ob ol pb pn xp fh fl fa mk cb mi mb ml pa kb kl kc th pl md cr hc hg hi ib il it qi qc gc lc lr co := by
    intro k
    refine ⟨i4, ?_⟩
    rw [cs]
    exact nm_e ⟨i4, nm_e (h0 k)⟩
  unfold wpX_judgeLength
  refine xk_isControl hs hb hfh (fun k => br_t rfl ⟨i4, i4, ?_⟩) (fun k => br_f (by decide) (fin (Or.inl k)))
  rw [cs, hml, hfl, nI_add]
  exact pk_le (z + n) 200 (fun q => fin (Or.inr q)) (fun q => h9 k q)
theorem yk_begin {post : SY → Prop} {s o n z : Nat} (hs : s < 4) (ho : ki s = nI o) (ho2 : o < 2 ∨ (8 ≤ o ∧ o ≤ 10)) (hn : n < 100000) (hml : ml s = nI z) (hz : z ≤ 200)
    (h9 : o < 8 → 200 < z + n → wpY_faults (fun u => match u with | (fr, en, ma, wr, st, lf, cd, ta, bg, kc, ob, ol, pb, pn, yp, ki, le, go, mk, cb, mb, ml, la, ps, pd, pt, kw, kh, kf, kz, ky, th, pl, md, cr, gc, lc, lr, wh, od, tg, tr, so, bd, wo, be) => post (fr, en, ma, wr, st, lf, cd, ta, bg, kc, ob, ol, pb, pn, yp, ki, le, go, mk, cb, mb, ml, la, ps, pd, pt, kw, kh, kf, kz, ky, th, pl, md, cr, gc, lc, lr, wh, od, tg, tr, so, bd, wo, be)) (fr, en, ma, wr, st, lf, cd, ta, bg, kc, ob, ol, pb, pn, yp, ki, le, go, mk, cb, mb, ml, la, ps, pd, pt, kw, kh, kf, kz, ky, th, pl, md, cr, gc, lc, lr, wh, od, tg, tr, so, bd, wo, be) (nI s) 9) (h0 : (8 ≤ o ∨ z + n ≤ 200) → post (fr, en, ma, wr, st, lf, cd, ta, bg, kc, ob, ol, pb, pn, upd yp s 4, ki, upd le s (nI n), upd go s 0, mk, cb, mb, ml, la, ps, pd, pt, kw, kh, kf, kz, ky, th, pl, md, cr, gc, lc, lr, wh, od, tg, tr, so, bd, wo, be)) : wpY_begin post (fr, en, ma, wr, st, lf, cd, ta, bg, kc, ob, ol, pb, pn, yp, ki, le, go, mk, cb, mb, ml, la, ps, pd, pt, kw, kh, kf, kz, ky, th, pl, md, cr, gc, lc, lr, wh, od, tg, tr, so, bd, wo, be) (nI s) (nI n) := by
  have cs : (nI s).toNatClampNeg = s := nI_clamp (by omega)
  have i4 : vp_in (nI s) 4 := pk_in s 4 hs
  have fin : (8 ≤ o ∨ z + n ≤ 200) → wY_begin_32 post (nI s) (nI n) fr en ma wr st lf cd ta bg kc ob ol pb pn yp ki le go mk cb mb ml la ps pd pt kw kh kf kz ky th pl md cr gc lc lr wh od tg tr so bd wo be := by
    intro k
    refine ⟨i4, ?_⟩
    rw [cs]
    exact nm_e ⟨i4, nm_e ⟨i4, nm_e (h0 k)⟩⟩
  refine ⟨i4, ?_⟩
  rw [cs, ho]
  refine pk_le 2 o (fun k => fin (Or.inl (by omega))) (fun k => ⟨i4, ?_⟩)
  rw [hml, nI_add]
  exact pk_le (z + n) 200 (fun q => fin (Or.inr q)) (fun q => h9 (by omega) q)
theorem xk_readSecond {post : Int32 → SX → Prop} {s b b0 z : Nat} (hs : s < 4) (hb : b < 256) (hb0 : b0 < 256) (hfh : fh s = nI b0) (hml : ml s = nI z) (hz : z ≤ 200)
    (h2 : (b < 128 ∨ b % 128 = 127 ∨ (16 < b % 128 ∧ 8 ≤ b0 % 16)) → post 2 (px, st, lf, cd, bg, gv, ob, ol, pb, pn, xp, fh, fl, fa, mk, cb, mi, mb, ml, pa, kb, kl, kc, th, pl, md, cr, hc, hg, hi, ib, il, it, qi, qc, gc, lc, lr, co))
    (h126 : 128 ≤ b → b % 128 = 126 → b0 % 16 < 8 → post 0 (px, st, lf, cd, bg, gv, ob, ol, pb, pn, upd xp s 2, fh, upd fl s 0, upd fa s 0, mk, cb, mi, mb, ml, pa, kb, kl, kc, th, pl, md, cr, hc, hg, hi, ib, il, it, qi, qc, gc, lc, lr, co))
    (h9 : 128 ≤ b → b % 128 < 126 → b0 % 16 < 8 → 200 < z + b % 128 → post 9 (px, st, lf, cd, bg, gv, ob, ol, pb, pn, xp, fh, upd fl s (nI (b % 128)), upd fa s 0, mk, cb, mi, mb, ml, pa, kb, kl, kc, th, pl, md, cr, hc, hg, hi, ib, il, it, qi, qc, gc, lc, lr, co))
    (h0 : 128 ≤ b → b % 128 < 126 → (8 ≤ b0 % 16 → b % 128 ≤ 16) → (8 ≤ b0 % 16 ∨ z + b % 128 ≤ 200) → post 0 (px, st, lf, cd, bg, gv, ob, ol, pb, pn, upd xp s 3, fh, upd fl s (nI (b % 128)), upd fa s 0, mk, cb, mi, mb, ml, pa, kb, kl, kc, th, pl, md, cr, hc, hg, hi, ib, il, it, qi, qc, gc, lc, lr, co)) : wpX_readSecond post (px, st, lf, cd, bg, gv, ob, ol, pb, pn, xp, fh, fl, fa, mk, cb, mi, mb, ml, pa, kb, kl, kc, th, pl, md, cr, hc, hg, hi, ib, il, it, qi, qc, gc, lc, lr, co) (nI s) (nI b) := by
  have cs : (nI s).toNatClampNeg = s := nI_clamp (by omega)
  have i4 : vp_in (nI s) 4 := pk_in s 4 hs
  have e127 := bn_127 b (by omega)
  have f35 : 128 ≤ b → b % 128 ≠ 127 → (b % 128 ≤ 16 ∨ b0 % 16 < 8) → wX_readSecond_35 post (nI s) (nI (b % 128)) px st lf cd bg gv ob ol pb pn xp fh fl fa mk cb mi mb ml pa kb kl kc th pl md cr hc hg hi ib il it qi qc gc lc lr co := by
    intro k1 k2 k3
    refine ⟨i4, ?_⟩
    rw [cs]
    refine nm_e (pk_eq (b % 128) 126 (fun e => ⟨i4, nm_e ⟨i4, nm_e (h126 k1 e (by omega))⟩⟩) (fun e => ⟨i4, nm_e ?_⟩))
    refine xk_judge (b := b0) (n := b % 128) hs hb0 hfh pk_us (by omega) hml hz (fun q1 q2 => h9 k1 (by omega) q1 q2) (fun q => ?_)
    rw [bk_uu]
    exact h0 k1 (by omega) (by omega) q
  unfold wpX_readSecond
  dsimp only
  rw [e127]
  refine nm_e (br_c (fun q => h2 (Or.inl ((bn_128 b hb).mp q))) (fun q => ?_))
  have k1 : 128 ≤ b := by
    apply Classical.byContradiction
    intro n
    exact q ((bn_128 b hb).mpr (by omega))
  refine pk_eq (b % 128) 127 (fun e => h2 (Or.inr (Or.inl e))) (fun e => pk_le (b % 128) 16 (fun e2 => f35 k1 e (Or.inl e2)) (fun e2 => ?_))
  exact xk_isControl hs hb0 hfh (fun k => br_t rfl (f35 k1 e (Or.inr k))) (fun k => br_f (by decide) (h2 (Or.inr (Or.inr ⟨e2, k⟩))))
/-- Y, behind a byte that ends no frame -/
theorem yk_312 {post : SY → Prop} {s : Nat} (hs : s < 4) (h8 : yp s ≠ 8 ∨ go s ≠ le s) (hp : post (fr, en, ma, wr, st, lf, cd, ta, bg, kc, ob, ol, pb, pn, yp, ki, le, go, mk, cb, mb, ml, la, ps, pd, pt, kw, kh, kf, kz, ky, th, pl, md, cr, gc, lc, lr, wh, od, tg, tr, so, bd, wo, be)) : wY_look_312 post (nI s) fr en ma wr st lf cd ta bg kc ob ol pb pn yp ki le go mk cb mb ml la ps pd pt kw kh kf kz ky th pl md cr gc lc lr wh od tg tr so bd wo be := by
  have cs : (nI s).toNatClampNeg = s := nI_clamp (by omega)
  have i4 : vp_in (nI s) 4 := pk_in s 4 hs
  refine ⟨i4, ?_⟩
  rw [cs]
  refine br_c (fun q => ⟨i4, i4, br_f ?_ hp⟩) (fun q => hp)
  rcases h8 with w | w
  · exact absurd q w
  · exact w
theorem yk_312d {post : SY → Prop} {s : Nat} (hs : s < 4) (h8 : yp s = 8) (hg' : go s = le s) (hp : wpY_done (fun u => match u with | (fr, en, ma, wr, st, lf, cd, ta, bg, kc, ob, ol, pb, pn, yp, ki, le, go, mk, cb, mb, ml, la, ps, pd, pt, kw, kh, kf, kz, ky, th, pl, md, cr, gc, lc, lr, wh, od, tg, tr, so, bd, wo, be) => post (fr, en, ma, wr, st, lf, cd, ta, bg, kc, ob, ol, pb, pn, yp, ki, le, go, mk, cb, mb, ml, la, ps, pd, pt, kw, kh, kf, kz, ky, th, pl, md, cr, gc, lc, lr, wh, od, tg, tr, so, bd, wo, be)) (fr, en, ma, wr, st, lf, cd, ta, bg, kc, ob, ol, pb, pn, yp, ki, le, go, mk, cb, mb, ml, la, ps, pd, pt, kw, kh, kf, kz, ky, th, pl, md, cr, gc, lc, lr, wh, od, tg, tr, so, bd, wo, be) (nI s)) : wY_look_312 post (nI s) fr en ma wr st lf cd ta bg kc ob ol pb pn yp ki le go mk cb mb ml la ps pd pt kw kh kf kz ky th pl md cr gc lc lr wh od tg tr so bd wo be := by
  have cs : (nI s).toNatClampNeg = s := nI_clamp (by omega)
  have i4 : vp_in (nI s) 4 := pk_in s 4 hs
  refine ⟨i4, ?_⟩
  rw [cs]
  exact br_t h8 ⟨i4, i4, br_t hg' hp⟩
/-- Y, the second byte -/
theorem yk_second {post : SY → Prop} {s b o z : Nat} (hs : s < 4) (hb : b < 256) (hyp : yp s = 1) (ho : ki s = nI o) (ho2 : o < 2 ∨ (8 ≤ o ∧ o ≤ 10)) (hml : ml s = nI z) (hz : z ≤ 200)
    (h2 : (b < 128 ∨ b % 128 = 127 ∨ (16 < b % 128 ∧ 8 ≤ o)) → wpY_faults (fun u => match u with | (fr, en, ma, wr, st, lf, cd, ta, bg, kc, ob, ol, pb, pn, yp, ki, le, go, mk, cb, mb, ml, la, ps, pd, pt, kw, kh, kf, kz, ky, th, pl, md, cr, gc, lc, lr, wh, od, tg, tr, so, bd, wo, be) => wY_look_312 post (nI s) fr en ma wr st lf cd ta bg kc ob ol pb pn yp ki le go mk cb mb ml la ps pd pt kw kh kf kz ky th pl md cr gc lc lr wh od tg tr so bd wo be) (fr, en, ma, wr, st, lf, cd, ta, bg, kc, ob, ol, pb, pn, yp, ki, le, go, mk, cb, mb, ml, la, ps, pd, pt, kw, kh, kf, kz, ky, th, pl, md, cr, gc, lc, lr, wh, od, tg, tr, so, bd, wo, be) (nI s) 2)
    (h126 : 128 ≤ b → b % 128 = 126 → o < 8 → post (fr, en, ma, wr, st, lf, cd, ta, bg, kc, ob, ol, pb, pn, upd yp s 2, ki, le, go, mk, cb, mb, ml, la, ps, pd, pt, kw, kh, kf, kz, ky, th, pl, md, cr, gc, lc, lr, wh, od, tg, tr, so, bd, wo, be))
    (h9 : 128 ≤ b → b % 128 < 126 → o < 8 → 200 < z + b % 128 → wpY_faults (fun u => match u with | (fr, en, ma, wr, st, lf, cd, ta, bg, kc, ob, ol, pb, pn, yp, ki, le, go, mk, cb, mb, ml, la, ps, pd, pt, kw, kh, kf, kz, ky, th, pl, md, cr, gc, lc, lr, wh, od, tg, tr, so, bd, wo, be) => wY_look_312 post (nI s) fr en ma wr st lf cd ta bg kc ob ol pb pn yp ki le go mk cb mb ml la ps pd pt kw kh kf kz ky th pl md cr gc lc lr wh od tg tr so bd wo be) (fr, en, ma, wr, st, lf, cd, ta, bg, kc, ob, ol, pb, pn, yp, ki, le, go, mk, cb, mb, ml, la, ps, pd, pt, kw, kh, kf, kz, ky, th, pl, md, cr, gc, lc, lr, wh, od, tg, tr, so, bd, wo, be) (nI s) 9)
    (h0 : 128 ≤ b → b % 128 < 126 → (8 ≤ o → b % 128 ≤ 16) → (8 ≤ o ∨ z + b % 128 ≤ 200) → post (fr, en, ma, wr, st, lf, cd, ta, bg, kc, ob, ol, pb, pn, upd yp s 4, ki, upd le s (nI (b % 128)), upd go s 0, mk, cb, mb, ml, la, ps, pd, pt, kw, kh, kf, kz, ky, th, pl, md, cr, gc, lc, lr, wh, od, tg, tr, so, bd, wo, be)) : wpY_look post (fr, en, ma, wr, st, lf, cd, ta, bg, kc, ob, ol, pb, pn, yp, ki, le, go, mk, cb, mb, ml, la, ps, pd, pt, kw, kh, kf, kz, ky, th, pl, md, cr, gc, lc, lr, wh, od, tg, tr, so, bd, wo, be) (nI s) (nI b) := by
  have cs : (nI s).toNatClampNeg = s := nI_clamp (by omega)
  have i4 : vp_in (nI s) 4 := pk_in s 4 hs
  have e127 := bn_127 b (by omega)
  have f108 : 128 ≤ b → b % 128 ≠ 127 → (b % 128 ≤ 16 ∨ o < 8) → wY_look_108 post (nI s) (nI (b % 128)) fr en ma wr st lf cd ta bg kc ob ol pb pn yp ki le go mk cb mb ml la ps pd pt kw kh kf kz ky th pl md cr gc lc lr wh od tg tr so bd wo be := by
    intro k1 k2 k3
    refine pk_eq (b % 128) 126 (fun e => ⟨i4, ?_⟩) (fun e => ?_)
    · rw [cs]
      exact nm_e (yk_312 hs (Or.inl (by rw [pk_us]; decide)) (h126 k1 e (by omega)))
    · refine yk_begin hs ho ho2 (by omega) hml hz (fun q1 q2 => h9 k1 (by omega) q1 q2) (fun q => ?_)
      exact yk_312 hs (Or.inl (by rw [pk_us]; decide)) (h0 k1 (by omega) (by omega) q)
  refine ⟨i4, ?_⟩
  rw [cs, hyp]
  refine nm_e (br_f (by decide) (br_f (by decide) (br_f (by decide) (br_t rfl ?_))))
  rw [e127]
  refine nm_e (pk_lt b 128 (fun k => h2 (Or.inl k)) (fun k => pk_eq (b % 128) 127 (fun e => h2 (Or.inr (Or.inl e))) (fun e => ⟨i4, ?_⟩)))
  rw [ho]
  exact pk_le o 1 (fun q => f108 k e (Or.inr (by omega))) (fun q => pk_le (b % 128) 16 (fun e2 => f108 k e (Or.inl e2)) (fun e2 => h2 (Or.inr (Or.inr ⟨e2, by omega⟩))))
end LOOK
