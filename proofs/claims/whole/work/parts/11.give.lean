/-! an item is given: what X does, for its two kinds of bodies; what Y does -/
section GIVE
variable {B : Nat} {A : Nat → List bk_E} {g : Nat → Nat} {st lf cd bg gv ob ol pb pn xp fh fl fa mk cb mi mb ml pa kb kl kc th pl md cr hc hg hi ib il it qi qc gc lc lr co ta yp ki le go la ps pd pt kw kh kf kz ky wh od tg tr so bd wo be : Nat → Int32} {px fr en ma wr : Int32}
set_option maxHeartbeats 200000 in
theorem xk_gl_itemBody {post : SX → Prop} {p n s a : Nat} {x1 x5 : Int32} (hs : s < 4) (ha : a + n ≤ 240) (hq : p + n ≤ 1664)
    (hend : ∀ f, wX_give__itemBody_52 post x1 (nI p) (nI n) x5 (nI s) (f + 1) (nI n) px st lf cd bg gv (bk_wf ob s a (fun k => ib (p + k)) n) (upd ol s (nI (a + n))) pb pn xp fh fl fa mk cb mi mb ml pa kb kl kc th pl md cr hc hg hi ib il it qi qc gc lc lr co) :
    ∀ f k : Nat, k ≤ n → n - k < f → wX_give__itemBody_52 post x1 (nI p) (nI n) x5 (nI s) f (nI k) px st lf cd bg gv (bk_wf ob s a (fun k => ib (p + k)) k) (upd ol s (nI (a + k))) pb pn xp fh fl fa mk cb mi mb ml pa kb kl kc th pl md cr hc hg hi ib il it qi qc gc lc lr co
  | 0, k, h1, h2 => by omega
  | f + 1, k, h1, h2 => by
    by_cases e : k = n
    · subst e; exact hend f
    · have ix : nI p + nI k = nI (p + k) := nI_add p k
      have ci : (nI (p + k)).toNatClampNeg = p + k := nI_clamp (by omega)
      refine br_f (nI_ge (by omega) (by omega)) ?_
      rw [ix, ci]
      refine ⟨pk_in (p + k) 1664 (by omega), xk_put hs pk_us (by omega) (nm_r (nI_1 k) ?_)⟩
      rw [bk_uu]
      exact xk_gl_itemBody hs ha hq hend f (k + 1) (by omega) (by omega)
set_option maxHeartbeats 200000 in
theorem xk_gh_itemBody {post : SX → Prop} {p n r a G : Nat} {x5 : Int32} (hr : r < 16) (hn : n ≤ 16) (ha : ol (r / 4) = nI a) (hroom : a + 5 + n ≤ 240) (hq : p + n ≤ 1664) (hg' : gv (r / 4) = nI G) (hG : G < 2 ^ 31)
    (hend : ∀ f, wX_give__itemBody_52 post (nI r) (nI p) (nI n) x5 (nI (r / 4)) (f + 1) (nI n) px st lf cd bg gv (bk_wf (bk_hd ob (r / 4) a n r G) (r / 4) (a + 5) (fun k => ib (p + k)) n) (upd ol (r / 4) (nI (a + 5 + n))) pb pn xp fh fl fa mk cb mi mb ml pa kb kl kc th pl md cr hc hg hi ib il it qi qc gc lc lr co) :
    wpX_give__itemBody post (px, st, lf, cd, bg, gv, ob, ol, pb, pn, xp, fh, fl, fa, mk, cb, mi, mb, ml, pa, kb, kl, kc, th, pl, md, cr, hc, hg, hi, ib, il, it, qi, qc, gc, lc, lr, co) (nI r) (nI p) (nI n) x5 := by
  have hs : r / 4 < 4 := by omega
  have ix : nI r / 4 = nI (r / 4) := bn_div r 4 (by omega) (by decide) (by decide)
  have cs : (nI (r / 4)).toNatClampNeg = r / 4 := nI_clamp (by omega)
  have e3 : 3 + nI n = nI (n + 3) := by rw [bn_add2, Nat.add_comm]
  have er : nI r - nI r / 4 * 4 = nI (r % 4) := pk_rem (a := r) (d := 4) (by omega) (by decide) (by decide)
  have e129 : (128 : Int32) + 1 = 129 := by decide
  have eg : gv (r / 4) &&& 255 = nI (G % 256) := by rw [hg', bn_255 G hG]
  unfold wpX_give__itemBody
  refine ⟨by decide, nm_r ix (xk_startFrame hs ha (by omega) ?_)⟩
  refine xk_put hs pk_us (by omega) ⟨by decide, ?_⟩
  refine xk_put hs pk_us (by omega) ⟨pk_in (r / 4) 4 hs, ?_⟩
  refine xk_put hs pk_us (by omega) ⟨n + 1, ?_⟩
  rw [cs, eg, e3, er, e129, bk_uu, bk_uu, bk_uu]
  have w := xk_gl_itemBody (a := a + 5) (s := r / 4) (p := p) (n := n) (post := post) (x1 := nI r) (x5 := x5) (ob := bk_hd ob (r / 4) a n r G) (ol := upd ol (r / 4) (nI (a + 5))) hs hroom hq (by rw [bk_uu]; exact hend) (n + 1) 0 (by omega) (by omega)
  rw [bk_uu] at w
  exact w
set_option maxHeartbeats 200000 in
/-- held -/
theorem xk_g1_itemBody {post : SX → Prop} {p n r a G m t c : Nat} {x5 : Int32} (hr : r < 16) (hn : n ≤ 16) (ha : ol (r / 4) = nI a) (hroom : a + 5 + n ≤ 240) (hq : p + n ≤ 1664) (hg' : gv (r / 4) = nI G) (hG : G < 2 ^ 31)
    (hm : md r = nI m) (hm3 : m < 3) (hm0 : m ≠ 0) (hp' : pl r = nI t) (ht : t < 6) (hc' : hc r = nI c) (hc5 : c < 5)
    (hp : post (px, st, lf, cd, bg, upd gv (r / 4) (nI (G + 1)), bk_wf (bk_hd ob (r / 4) a n r G) (r / 4) (a + 5) (fun k => ib (p + k)) n, upd ol (r / 4) (nI (a + 5 + n)), pb, pn, xp, fh, fl, fa, mk, cb, mi, mb, ml, pa, kb, kl, kc, th, pl, md, cr, upd hc r (nI (c + 1)), upd hg (r * 5 + c) (nI G), upd hi (r * 5 + c) x5, ib, il, it, qi, qc, upd gc t (gc t + 1), lc, upd lr t (nI r), co)) :
    wpX_give__itemBody post (px, st, lf, cd, bg, gv, ob, ol, pb, pn, xp, fh, fl, fa, mk, cb, mi, mb, ml, pa, kb, kl, kc, th, pl, md, cr, hc, hg, hi, ib, il, it, qi, qc, gc, lc, lr, co) (nI r) (nI p) (nI n) x5 := by
  have hs : r / 4 < 4 := by omega
  have cr' : (nI r).toNatClampNeg = r := nI_clamp (by omega)
  have cs : (nI (r / 4)).toNatClampNeg = r / 4 := nI_clamp (by omega)
  have ct : (nI t).toNatClampNeg = t := nI_clamp (by omega)
  have ix : nI r * 5 + nI c = nI (r * 5 + c) := by rw [bn_mul, nI_add]
  have ci : (nI (r * 5 + c)).toNatClampNeg = r * 5 + c := nI_clamp (by omega)
  have ir : vp_in (nI r) 16 := pk_in r 16 hr
  have i4 : vp_in (nI (r / 4)) 4 := pk_in (r / 4) 4 hs
  have it6 : vp_in (nI t) 6 := pk_in t 6 ht
  have ih : vp_in (nI (r * 5 + c)) 80 := pk_in (r * 5 + c) 80 (by omega)
  refine xk_gh_itemBody hr hn ha hroom hq hg' hG (fun f => ?_)
  refine br_t (nI_le (Nat.le_refl _) (by omega)) ⟨ir, ?_⟩
  rw [cr', hm]
  refine br_f (nI_ne0 (by omega) (by omega)) ?_
  simp only [wX_give__itemBody_148, cr', cs, ct, hc', hp', hg', ix, ci, nI_1, forall_eq]
  exact ⟨ir, i4, ih, ih, ir, ir, i4, i4, ir, it6, it6, ir, it6, hp⟩
set_option maxHeartbeats 200000 in
/-- not held -/
theorem xk_g0_itemBody {post : SX → Prop} {p n r a G t : Nat} {x5 : Int32} (hr : r < 16) (hn : n ≤ 16) (ha : ol (r / 4) = nI a) (hroom : a + 5 + n ≤ 240) (hq : p + n ≤ 1664) (hg' : gv (r / 4) = nI G) (hG : G < 2 ^ 31)
    (hm : md r = 0) (hp' : pl r = nI t) (ht : t < 6) (hx : x5 = -1 ∨ ∃ q, q < 104 ∧ x5 = nI q)
    (hp : post (px, st, lf, cd, bg, upd gv (r / 4) (nI (G + 1)), bk_wf (bk_hd ob (r / 4) a n r G) (r / 4) (a + 5) (fun k => ib (p + k)) n, upd ol (r / 4) (nI (a + 5 + n)), pb, pn, xp, fh, fl, fa, mk, cb, mi, mb, ml, pa, kb, kl, kc, th, pl, md, cr, hc, hg, hi, ib, bk_fre il x5, it, qi, qc, upd gc t (gc t + 1), lc, upd lr t (nI r), co)) :
    wpX_give__itemBody post (px, st, lf, cd, bg, gv, ob, ol, pb, pn, xp, fh, fl, fa, mk, cb, mi, mb, ml, pa, kb, kl, kc, th, pl, md, cr, hc, hg, hi, ib, il, it, qi, qc, gc, lc, lr, co) (nI r) (nI p) (nI n) x5 := by
  have hs : r / 4 < 4 := by omega
  have cr' : (nI r).toNatClampNeg = r := nI_clamp (by omega)
  have cs : (nI (r / 4)).toNatClampNeg = r / 4 := nI_clamp (by omega)
  have ct : (nI t).toNatClampNeg = t := nI_clamp (by omega)
  have ir : vp_in (nI r) 16 := pk_in r 16 hr
  have i4 : vp_in (nI (r / 4)) 4 := pk_in (r / 4) 4 hs
  have it6 : vp_in (nI t) 6 := pk_in t 6 ht
  refine xk_gh_itemBody hr hn ha hroom hq hg' hG (fun f => ?_)
  refine br_t (nI_le (Nat.le_refl _) (by omega)) ⟨ir, ?_⟩
  rw [cr']
  refine br_t hm ?_
  unfold bk_fre at hp
  rcases hx with rfl | ⟨q, hq', rfl⟩
  · refine br_t rfl ?_
    rw [if_pos rfl] at hp
    simp only [wX_give__itemBody_148, cr', cs, ct, hp', hg', nI_1, forall_eq]
    exact ⟨i4, i4, ir, it6, it6, ir, it6, hp⟩
  · refine br_f (bk_nm1 (by omega)) ?_
    rw [if_neg (bk_nm1 (by omega)), nI_clamp (by omega)] at hp
    simp only [wX_give__itemBody_148, cr', cs, ct, hp', hg', nI_1, nI_clamp (show q < 2 ^ 31 by omega), forall_eq]
    exact ⟨pk_in q 104 hq', i4, i4, ir, it6, it6, ir, it6, hp⟩
set_option maxHeartbeats 200000 in
theorem xk_gl_keptBytes {post : SX → Prop} {p n s a : Nat} {x1 x5 : Int32} (hs : s < 4) (ha : a + n ≤ 240) (hq : p + n ≤ 532)
    (hend : ∀ f, wX_give__keptBytes_52 post x1 (nI p) (nI n) x5 (nI s) (f + 1) (nI n) px st lf cd bg gv (bk_wf ob s a (fun k => kb (p + k)) n) (upd ol s (nI (a + n))) pb pn xp fh fl fa mk cb mi mb ml pa kb kl kc th pl md cr hc hg hi ib il it qi qc gc lc lr co) :
    ∀ f k : Nat, k ≤ n → n - k < f → wX_give__keptBytes_52 post x1 (nI p) (nI n) x5 (nI s) f (nI k) px st lf cd bg gv (bk_wf ob s a (fun k => kb (p + k)) k) (upd ol s (nI (a + k))) pb pn xp fh fl fa mk cb mi mb ml pa kb kl kc th pl md cr hc hg hi ib il it qi qc gc lc lr co
  | 0, k, h1, h2 => by omega
  | f + 1, k, h1, h2 => by
    by_cases e : k = n
    · subst e; exact hend f
    · have ix : nI p + nI k = nI (p + k) := nI_add p k
      have ci : (nI (p + k)).toNatClampNeg = p + k := nI_clamp (by omega)
      refine br_f (nI_ge (by omega) (by omega)) ?_
      rw [ix, ci]
      refine ⟨pk_in (p + k) 532 (by omega), xk_put hs pk_us (by omega) (nm_r (nI_1 k) ?_)⟩
      rw [bk_uu]
      exact xk_gl_keptBytes hs ha hq hend f (k + 1) (by omega) (by omega)
set_option maxHeartbeats 200000 in
theorem xk_gh_keptBytes {post : SX → Prop} {p n r a G : Nat} {x5 : Int32} (hr : r < 16) (hn : n ≤ 16) (ha : ol (r / 4) = nI a) (hroom : a + 5 + n ≤ 240) (hq : p + n ≤ 532) (hg' : gv (r / 4) = nI G) (hG : G < 2 ^ 31)
    (hend : ∀ f, wX_give__keptBytes_52 post (nI r) (nI p) (nI n) x5 (nI (r / 4)) (f + 1) (nI n) px st lf cd bg gv (bk_wf (bk_hd ob (r / 4) a n r G) (r / 4) (a + 5) (fun k => kb (p + k)) n) (upd ol (r / 4) (nI (a + 5 + n))) pb pn xp fh fl fa mk cb mi mb ml pa kb kl kc th pl md cr hc hg hi ib il it qi qc gc lc lr co) :
    wpX_give__keptBytes post (px, st, lf, cd, bg, gv, ob, ol, pb, pn, xp, fh, fl, fa, mk, cb, mi, mb, ml, pa, kb, kl, kc, th, pl, md, cr, hc, hg, hi, ib, il, it, qi, qc, gc, lc, lr, co) (nI r) (nI p) (nI n) x5 := by
  have hs : r / 4 < 4 := by omega
  have ix : nI r / 4 = nI (r / 4) := bn_div r 4 (by omega) (by decide) (by decide)
  have cs : (nI (r / 4)).toNatClampNeg = r / 4 := nI_clamp (by omega)
  have e3 : 3 + nI n = nI (n + 3) := by rw [bn_add2, Nat.add_comm]
  have er : nI r - nI r / 4 * 4 = nI (r % 4) := pk_rem (a := r) (d := 4) (by omega) (by decide) (by decide)
  have e129 : (128 : Int32) + 1 = 129 := by decide
  have eg : gv (r / 4) &&& 255 = nI (G % 256) := by rw [hg', bn_255 G hG]
  unfold wpX_give__keptBytes
  refine ⟨by decide, nm_r ix (xk_startFrame hs ha (by omega) ?_)⟩
  refine xk_put hs pk_us (by omega) ⟨by decide, ?_⟩
  refine xk_put hs pk_us (by omega) ⟨pk_in (r / 4) 4 hs, ?_⟩
  refine xk_put hs pk_us (by omega) ⟨n + 1, ?_⟩
  rw [cs, eg, e3, er, e129, bk_uu, bk_uu, bk_uu]
  have w := xk_gl_keptBytes (a := a + 5) (s := r / 4) (p := p) (n := n) (post := post) (x1 := nI r) (x5 := x5) (ob := bk_hd ob (r / 4) a n r G) (ol := upd ol (r / 4) (nI (a + 5))) hs hroom hq (by rw [bk_uu]; exact hend) (n + 1) 0 (by omega) (by omega)
  rw [bk_uu] at w
  exact w
set_option maxHeartbeats 200000 in
/-- held -/
theorem xk_g1_keptBytes {post : SX → Prop} {p n r a G m t c : Nat} {x5 : Int32} (hr : r < 16) (hn : n ≤ 16) (ha : ol (r / 4) = nI a) (hroom : a + 5 + n ≤ 240) (hq : p + n ≤ 532) (hg' : gv (r / 4) = nI G) (hG : G < 2 ^ 31)
    (hm : md r = nI m) (hm3 : m < 3) (hm0 : m ≠ 0) (hp' : pl r = nI t) (ht : t < 6) (hc' : hc r = nI c) (hc5 : c < 5)
    (hp : post (px, st, lf, cd, bg, upd gv (r / 4) (nI (G + 1)), bk_wf (bk_hd ob (r / 4) a n r G) (r / 4) (a + 5) (fun k => kb (p + k)) n, upd ol (r / 4) (nI (a + 5 + n)), pb, pn, xp, fh, fl, fa, mk, cb, mi, mb, ml, pa, kb, kl, kc, th, pl, md, cr, upd hc r (nI (c + 1)), upd hg (r * 5 + c) (nI G), upd hi (r * 5 + c) x5, ib, il, it, qi, qc, upd gc t (gc t + 1), lc, upd lr t (nI r), co)) :
    wpX_give__keptBytes post (px, st, lf, cd, bg, gv, ob, ol, pb, pn, xp, fh, fl, fa, mk, cb, mi, mb, ml, pa, kb, kl, kc, th, pl, md, cr, hc, hg, hi, ib, il, it, qi, qc, gc, lc, lr, co) (nI r) (nI p) (nI n) x5 := by
  have hs : r / 4 < 4 := by omega
  have cr' : (nI r).toNatClampNeg = r := nI_clamp (by omega)
  have cs : (nI (r / 4)).toNatClampNeg = r / 4 := nI_clamp (by omega)
  have ct : (nI t).toNatClampNeg = t := nI_clamp (by omega)
  have ix : nI r * 5 + nI c = nI (r * 5 + c) := by rw [bn_mul, nI_add]
  have ci : (nI (r * 5 + c)).toNatClampNeg = r * 5 + c := nI_clamp (by omega)
  have ir : vp_in (nI r) 16 := pk_in r 16 hr
  have i4 : vp_in (nI (r / 4)) 4 := pk_in (r / 4) 4 hs
  have it6 : vp_in (nI t) 6 := pk_in t 6 ht
  have ih : vp_in (nI (r * 5 + c)) 80 := pk_in (r * 5 + c) 80 (by omega)
  refine xk_gh_keptBytes hr hn ha hroom hq hg' hG (fun f => ?_)
  refine br_t (nI_le (Nat.le_refl _) (by omega)) ⟨ir, ?_⟩
  rw [cr', hm]
  refine br_f (nI_ne0 (by omega) (by omega)) ?_
  simp only [wX_give__keptBytes_148, cr', cs, ct, hc', hp', hg', ix, ci, nI_1, forall_eq]
  exact ⟨ir, i4, ih, ih, ir, ir, i4, i4, ir, it6, it6, ir, it6, hp⟩
set_option maxHeartbeats 200000 in
/-- not held -/
theorem xk_g0_keptBytes {post : SX → Prop} {p n r a G t : Nat} {x5 : Int32} (hr : r < 16) (hn : n ≤ 16) (ha : ol (r / 4) = nI a) (hroom : a + 5 + n ≤ 240) (hq : p + n ≤ 532) (hg' : gv (r / 4) = nI G) (hG : G < 2 ^ 31)
    (hm : md r = 0) (hp' : pl r = nI t) (ht : t < 6) (hx : x5 = -1 ∨ ∃ q, q < 104 ∧ x5 = nI q)
    (hp : post (px, st, lf, cd, bg, upd gv (r / 4) (nI (G + 1)), bk_wf (bk_hd ob (r / 4) a n r G) (r / 4) (a + 5) (fun k => kb (p + k)) n, upd ol (r / 4) (nI (a + 5 + n)), pb, pn, xp, fh, fl, fa, mk, cb, mi, mb, ml, pa, kb, kl, kc, th, pl, md, cr, hc, hg, hi, ib, bk_fre il x5, it, qi, qc, upd gc t (gc t + 1), lc, upd lr t (nI r), co)) :
    wpX_give__keptBytes post (px, st, lf, cd, bg, gv, ob, ol, pb, pn, xp, fh, fl, fa, mk, cb, mi, mb, ml, pa, kb, kl, kc, th, pl, md, cr, hc, hg, hi, ib, il, it, qi, qc, gc, lc, lr, co) (nI r) (nI p) (nI n) x5 := by
  have hs : r / 4 < 4 := by omega
  have cr' : (nI r).toNatClampNeg = r := nI_clamp (by omega)
  have cs : (nI (r / 4)).toNatClampNeg = r / 4 := nI_clamp (by omega)
  have ct : (nI t).toNatClampNeg = t := nI_clamp (by omega)
  have ir : vp_in (nI r) 16 := pk_in r 16 hr
  have i4 : vp_in (nI (r / 4)) 4 := pk_in (r / 4) 4 hs
  have it6 : vp_in (nI t) 6 := pk_in t 6 ht
  refine xk_gh_keptBytes hr hn ha hroom hq hg' hG (fun f => ?_)
  refine br_t (nI_le (Nat.le_refl _) (by omega)) ⟨ir, ?_⟩
  rw [cr']
  refine br_t hm ?_
  unfold bk_fre at hp
  rcases hx with rfl | ⟨q, hq', rfl⟩
  · refine br_t rfl ?_
    rw [if_pos rfl] at hp
    simp only [wX_give__keptBytes_148, cr', cs, ct, hp', hg', nI_1, forall_eq]
    exact ⟨i4, i4, ir, it6, it6, ir, it6, hp⟩
  · refine br_f (bk_nm1 (by omega)) ?_
    rw [if_neg (bk_nm1 (by omega)), nI_clamp (by omega)] at hp
    simp only [wX_give__keptBytes_148, cr', cs, ct, hp', hg', nI_1, nI_clamp (show q < 2 ^ 31 by omega), forall_eq]
    exact ⟨pk_in q 104 hq', i4, i4, ir, it6, it6, ir, it6, hp⟩
set_option maxHeartbeats 200000 in
theorem yk_gl {post : SY → Prop} {y n s a : Nat} {x1 x5 : Int32} (hs : s < 4) (ha : a + n ≤ 240) (hq : y < 112) (hn : n ≤ 16)
    (hend : ∀ f, wY_give_65 post x1 (nI y) (nI s) (nI n) x5 (f + 1) (nI n) fr en ma wr st lf cd ta bg kc (bk_wf ob s a (fun k => bd (16 * y + k)) n) (upd ol s (nI (a + n))) pb pn yp ki le go mk cb mb ml la ps pd pt kw kh kf kz ky th pl md cr gc lc lr wh od tg tr so bd wo be) :
    ∀ f k : Nat, k ≤ n → n - k < f → wY_give_65 post x1 (nI y) (nI s) (nI n) x5 f (nI k) fr en ma wr st lf cd ta bg kc (bk_wf ob s a (fun k => bd (16 * y + k)) k) (upd ol s (nI (a + k))) pb pn yp ki le go mk cb mb ml la ps pd pt kw kh kf kz ky th pl md cr gc lc lr wh od tg tr so bd wo be
  | 0, k, h1, h2 => by omega
  | f + 1, k, h1, h2 => by
    by_cases e : k = n
    · subst e; exact hend f
    · have ix : 16 * nI y + nI k = nI (16 * y + k) := by rw [bn_mul2, nI_add]
      have ci : (nI (16 * y + k)).toNatClampNeg = 16 * y + k := nI_clamp (by omega)
      refine br_f (nI_ge (by omega) (by omega)) ?_
      rw [ix, ci]
      refine ⟨pk_in (16 * y + k) 1792 (by omega), yk_put hs pk_us (by omega) (nm_r (nI_1 k) ?_)⟩
      rw [bk_uu]
      exact yk_gl hs ha hq hn hend f (k + 1) (by omega) (by omega)
set_option maxHeartbeats 200000 in
theorem yk_give {post : SY → Prop} {y n r a G t : Nat} (hr : r < 16) (hn : n ≤ 16) (ha : ol (r / 4) = nI a) (hroom : a + 5 + n ≤ 240) (hy : y < 112) (hso : so y = nI n) (hg' : ta (r / 4) = nI (G % 256)) (hp' : pl r = nI t) (ht : t < 6) (z0 : Int32) (hz : (md r = 0 ∧ z0 = -1) ∨ (md r ≠ 0 ∧ z0 = nI (3 + r)))
    (hp : post (fr, en + 1, ma, wr, st, lf, cd, upd ta (r / 4) (nI ((G % 256 + 1) % 256)), bg, kc, bk_wf (bk_hd ob (r / 4) a n r G) (r / 4) (a + 5) (fun k => bd (16 * y + k)) n, upd ol (r / 4) (nI (a + 5 + n)), pb, pn, yp, ki, le, go, mk, cb, mb, ml, la, ps, pd, pt, kw, kh, kf, kz, ky, th, pl, md, cr, upd gc t (gc t + 1), lc, upd lr t (nI r), upd wh y z0, upd od y (en + 1), upd tg y (ta (r / 4)), tr, so, bd, wo, be)) :
    wpY_give post (fr, en, ma, wr, st, lf, cd, ta, bg, kc, ob, ol, pb, pn, yp, ki, le, go, mk, cb, mb, ml, la, ps, pd, pt, kw, kh, kf, kz, ky, th, pl, md, cr, gc, lc, lr, wh, od, tg, tr, so, bd, wo, be) (nI r) (nI y) := by
  have hs : r / 4 < 4 := by omega
  have cr' : (nI r).toNatClampNeg = r := nI_clamp (by omega)
  have cy : (nI y).toNatClampNeg = y := nI_clamp (by omega)
  have ix : nI r / 4 = nI (r / 4) := bn_div r 4 (by omega) (by decide) (by decide)
  have cs : (nI (r / 4)).toNatClampNeg = r / 4 := nI_clamp (by omega)
  have ct : (nI t).toNatClampNeg = t := nI_clamp (by omega)
  have e3 : nI n + 3 = nI (n + 3) := bn_add n 3
  have e33 : 3 + nI r = nI (3 + r) := bn_add2 r 3
  have er : nI r - nI r / 4 * 4 = nI (r % 4) := pk_rem (a := r) (d := 4) (by omega) (by decide) (by decide)
  have e256 : nI (G % 256 + 1) - nI (G % 256 + 1) / 256 * 256 = nI ((G % 256 + 1) % 256) := pk_rem (a := G % 256 + 1) (d := 256) (by omega) (by decide) (by decide)
  have ir : vp_in (nI r) 16 := pk_in r 16 hr
  have iy : vp_in (nI y) 112 := pk_in y 112 hy
  have i4 : vp_in (nI (r / 4)) 4 := pk_in (r / 4) 4 hs
  have it6 : vp_in (nI t) 6 := pk_in t 6 ht
  unfold wpY_give
  refine ⟨by decide, nm_r ix ⟨iy, nm_r (by rw [cy, hso]) ⟨ir, nm_r (by rw [cr', hp']) (yk_put hs ha (by omega) ?_)⟩⟩⟩
  refine yk_put hs pk_us (by omega) ?_
  refine yk_put hs pk_us (by omega) ⟨by decide, ?_⟩
  refine yk_put hs pk_us (by omega) ⟨i4, ?_⟩
  refine yk_put hs pk_us (by omega) ⟨n + 1, ?_⟩
  rw [cs, hg', e3, er, bk_uu, bk_uu, bk_uu, bk_uu]
  have hend : ∀ f, wY_give_65 post (nI r) (nI y) (nI (r / 4)) (nI n) (nI t) (f + 1) (nI n) fr en ma wr st lf cd ta bg kc (bk_wf (bk_hd ob (r / 4) a n r G) (r / 4) (a + 5) (fun k => bd (16 * y + k)) n) (upd ol (r / 4) (nI (a + 5 + n))) pb pn yp ki le go mk cb mb ml la ps pd pt kw kh kf kz ky th pl md cr gc lc lr wh od tg tr so bd wo be := by
    intro f
    refine br_t (nI_le (Nat.le_refl _) (by omega)) ⟨ir, ?_⟩
    rw [cr']
    rcases hz with ⟨m0, rfl⟩ | ⟨m0, rfl⟩
    · refine br_t m0 ?_
      simp only [wY_give_116, cy, cs, ct, hg', nI_1, e256, forall_eq]
      rw [hg'] at hp
      exact ⟨iy, iy, i4, iy, i4, by decide, i4, it6, it6, it6, hp⟩
    · refine br_f m0 ?_
      simp only [wY_give_116, e33, cy, cs, ct, hg', nI_1, e256, forall_eq]
      rw [hg'] at hp
      exact ⟨iy, iy, i4, iy, i4, by decide, i4, it6, it6, it6, hp⟩
  have w := yk_gl (a := a + 5) (s := r / 4) (y := y) (n := n) (post := post) (x1 := nI r) (x5 := nI t) (ob := bk_hd ob (r / 4) a n r G) (ol := upd ol (r / 4) (nI (a + 5))) hs hroom hy hn (by rw [bk_uu]; exact hend) (n + 1) 0 (by omega) (by omega)
  rw [bk_uu] at w
  exact w
end GIVE
