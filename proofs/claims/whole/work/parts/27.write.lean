/-! what is written besides -/
section WRITE
variable {B : Nat} {A : Nat → List bk_E} {g : Nat → Nat} {st lf cd bg gv ob ol pb pn xp fh fl fa mk cb mi mb ml pa kb kl kc th pl md cr hc hg hi ib il it qi qc gc lc lr co ta yp ki le go la ps pd pt kw kh kf kz ky wh od tg tr so bd wo be : Nat → Int32} {px fr en ma wr : Int32}
theorem yk_w36 {post : SY → Prop} {s a n : Nat} (hs : s < 4) (ha : a + n ≤ 240) (hn : n ≤ 200) (hp : post (fr, en, ma, wr, st, lf, cd, ta, bg, kc, bk_wf ob s a wo n, upd ol s (nI (a + n)), pb, pn, yp, ki, le, go, mk, cb, mb, ml, la, ps, pd, pt, kw, kh, kf, kz, ky, th, pl, md, cr, gc, lc, lr, wh, od, tg, tr, so, bd, wo, be)) :
    ∀ f k : Nat, k ≤ n → n - k < f → wY_write_36 post (nI s) (nI n) f (nI k) fr en ma wr st lf cd ta bg kc (bk_wf ob s a wo k) (upd ol s (nI (a + k))) pb pn yp ki le go mk cb mb ml la ps pd pt kw kh kf kz ky th pl md cr gc lc lr wh od tg tr so bd wo be
  | 0, k, h1, h2 => by omega
  | f + 1, k, h1, h2 => by
    have ck : (nI k).toNatClampNeg = k := nI_clamp (by omega)
    refine pk_le n k (fun g => ?_) (fun g => ?_)
    · have : k = n := by omega
      subst this
      exact hp
    · rw [ck]
      refine ⟨pk_in k 201 (by omega), yk_put hs pk_us (by omega) (nm_r (nI_1 k) ?_)⟩
      rw [bk_uu]
      exact yk_w36 hs ha hn hp f (k + 1) (by omega) (by omega)
theorem yk_write {post : SY → Prop} {s a n : Nat} {k : Int32} (hs : s < 4) (ha : ol s = nI a) (ha2 : a ≤ 240) (hn : n ≤ 200)
    (h1 : a + 2 + n ≤ 240 → post (fr, en, ma, wr, st, lf, cd, ta, bg, kc, bk_wf (upd (upd ob (240 * s + a) (128 + k)) (240 * s + (a + 1)) (nI n)) s (a + 2) wo n, upd ol s (nI (a + 2 + n)), pb, pn, yp, ki, le, go, mk, cb, mb, ml, la, ps, pd, pt, kw, kh, kf, kz, ky, th, pl, md, cr, gc, lc, lr, wh, od, tg, tr, so, bd, wo, be)) (h0 : 240 < a + 2 + n → post (fr, en, ma, wr, st, lf, cd, ta, bg, kc, ob, ol, pb, pn, yp, ki, le, go, mk, cb, mb, ml, la, ps, pd, pt, kw, kh, kf, kz, ky, th, pl, md, cr, gc, lc, lr, wh, od, tg, tr, so, bd, wo, be)) : wpY_write post (fr, en, ma, wr, st, lf, cd, ta, bg, kc, ob, ol, pb, pn, yp, ki, le, go, mk, cb, mb, ml, la, ps, pd, pt, kw, kh, kf, kz, ky, th, pl, md, cr, gc, lc, lr, wh, od, tg, tr, so, bd, wo, be) (nI s) k (nI n) := by
  have cs : (nI s).toNatClampNeg = s := nI_clamp (by omega)
  have e1 : nI a + nI n + 2 = nI (a + n + 2) := by rw [nI_add, bn_add]
  refine ⟨pk_in s 4 hs, ?_⟩
  rw [cs, ha, e1]
  refine pk_le (a + n + 2) 240 (fun g => ?_) (fun g => h0 (by omega))
  refine yk_put hs ha (by omega) (yk_put hs pk_us (by omega) ⟨n + 1, ?_⟩)
  rw [bk_uu]
  have w := yk_w36 (post := post) (s := s) (a := a + 2) (n := n) (ob := upd (upd ob (240 * s + a) (128 + k)) (240 * s + (a + 1)) (nI n)) (ol := upd ol s (nI (a + 2))) hs (by omega) hn (by rw [bk_uu]; exact h1 (by omega)) (n + 1) 0 (by omega) (by omega)
  rw [bk_uu] at w
  exact w
theorem xk_echo {post : SX → Prop} {s a : Nat} (hs : s < 4) (ha : ol s = nI a) (ha2 : a ≤ 240)
    (h1 : a + 2 + 2 ≤ 240 → post (px, st, lf, cd, bg, gv, upd (upd (upd (upd ob (240 * s + a) (128 + 1)) (240 * s + (a + 1)) 2) (240 * s + (a + 2)) 9) (240 * s + (a + 3)) (pa 1), upd ol s (nI (a + 4)), pb, pn, xp, fh, fl, fa, mk, cb, mi, mb, ml, pa, kb, kl, kc, th, pl, md, cr, hc, hg, hi, ib, il, it, qi, qc, gc, lc, lr, co)) (h0 : 240 < a + 2 + 2 → post (px, st, lf, cd, bg, gv, ob, ol, pb, pn, xp, fh, fl, fa, mk, cb, mi, mb, ml, pa, kb, kl, kc, th, pl, md, cr, hc, hg, hi, ib, il, it, qi, qc, gc, lc, lr, co)) : wpX_echo post (px, st, lf, cd, bg, gv, ob, ol, pb, pn, xp, fh, fl, fa, mk, cb, mi, mb, ml, pa, kb, kl, kc, th, pl, md, cr, hc, hg, hi, ib, il, it, qi, qc, gc, lc, lr, co) (nI s) := by
  unfold wpX_echo
  refine xk_hasRoom (n := 2) hs ha ha2 (by omega) (fun g => br_f (by decide) ?_) (fun g => br_t rfl (h0 g))
  refine xk_startFrame hs ha (by omega) (xk_put hs pk_us (by omega) (xk_put hs pk_us (by omega) ?_))
  rw [bk_uu, bk_uu]
  exact h1 g
/-- what is kept for others is passed over -/
theorem xk_skip {post : SX → Prop} {s c : Nat} {x z : Int32} (hs : s < 4) (hc7 : c ≤ 7) (hz : ∀ j, j < c → ¬ z ≤ nI j) (hx : ∀ j, j < c → kb ((s * 7 + j) * 19 + 2) ≠ x) {f : Nat} (hp : wX_doKept_10 post (nI s) x z f (nI c) px st lf cd bg gv ob ol pb pn xp fh fl fa mk cb mi mb ml pa kb kl kc th pl md cr hc hg hi ib il it qi qc gc lc lr co) :
    ∀ i, i ≤ c → wX_doKept_10 post (nI s) x z (f + i) (nI (c - i)) px st lf cd bg gv ob ol pb pn xp fh fl fa mk cb mi mb ml pa kb kl kc th pl md cr hc hg hi ib il it qi qc gc lc lr co
  | 0, _ => hp
  | i + 1, hi' => by
    have ih := xk_skip hs hc7 hz hx hp i (by omega)
    have ei : c - i = c - (i + 1) + 1 := by omega
    rw [ei] at ih
    generalize hi0 : c - (i + 1) = j at *
    have hj : j < c := by omega
    have e1 : nI s * 7 + nI j = nI (s * 7 + j) := by rw [bn_mul, nI_add]
    have e2 : nI (s * 7 + j) * 19 = nI ((s * 7 + j) * 19) := bn_mul _ 19
    have e3 : nI ((s * 7 + j) * 19) + 2 = nI ((s * 7 + j) * 19 + 2) := bn_add _ 2
    have c2 : (nI ((s * 7 + j) * 19 + 2)).toNatClampNeg = (s * 7 + j) * 19 + 2 := nI_clamp (by omega)
    refine br_f (hz j hj) (nm_r e1 (nm_r e2 ?_))
    rw [e3, c2]
    exact ⟨vp_in_nI (by omega) (by omega), br_f (hx j hj) (nm_r (nI_1 j) ih)⟩
theorem xk_skip0 {post : SX → Prop} {s c : Nat} {x z : Int32} (hs : s < 4) (hc7 : c ≤ 7) (hz : ∀ j, j < c → ¬ z ≤ nI j) (hx : ∀ j, j < c → kb ((s * 7 + j) * 19 + 2) ≠ x) {f : Nat} (hp : wX_doKept_10 post (nI s) x z f (nI c) px st lf cd bg gv ob ol pb pn xp fh fl fa mk cb mi mb ml pa kb kl kc th pl md cr hc hg hi ib il it qi qc gc lc lr co) : wX_doKept_10 post (nI s) x z (f + c) 0 px st lf cd bg gv ob ol pb pn xp fh fl fa mk cb mi mb ml pa kb kl kc th pl md cr hc hg hi ib il it qi qc gc lc lr co := by
  have w := xk_skip hs hc7 hz hx hp c (Nat.le_refl _)
  rw [Nat.sub_self] at w
  exact w
end WRITE
