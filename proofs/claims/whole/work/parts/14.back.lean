/-! what comes back -/
def bk_sri (f : Nat → Int32) (b i c : Nat) : Nat → Int32 := fun j => if b + i < j ∧ j ≤ b + c then f (j - 1) else f j
theorem bk_sri_c (f : Nat → Int32) (b c : Nat) : bk_sri f b c c = f := by
  funext j; unfold bk_sri; rw [if_neg (by omega)]
theorem bk_sri_o (f : Nat → Int32) (b i c : Nat) : bk_sri f b (i + 1) c (b + i) = f (b + i) := by
  unfold bk_sri; rw [if_neg (by omega)]
theorem bk_sri_s (f : Nat → Int32) (b i c : Nat) (h : i < c) : upd (bk_sri f b (i + 1) c) (b + (i + 1)) (f (b + i)) = bk_sri f b i c := by
  funext j
  unfold upd bk_sri
  by_cases e : j = b + (i + 1)
  · rw [if_pos e, if_pos (by omega), e]
    exact congrArg f (by omega)
  · rw [if_neg e]
    by_cases h : b + (i + 1) < j ∧ j ≤ b + c
    · rw [if_pos h, if_pos (by omega)]
    · rw [if_neg h, if_neg (by omega)]
theorem bk_sri_0 (f : Nat → Int32) (b c : Nat) (w : Int32) : upd (bk_sri f b 0 c) b w = bk_shr f b c w := by
  funext j
  unfold upd bk_sri bk_shr
  by_cases e : j = b
  · rw [if_pos e, if_pos e]
  · rw [if_neg e, if_neg e]; rfl
section BACK
variable {B : Nat} {A : Nat → List bk_E} {g : Nat → Nat} {st lf cd bg gv ob ol pb pn xp fh fl fa mk cb mi mb ml pa kb kl kc th pl md cr hc hg hi ib il it qi qc gc lc lr co ta yp ki le go la ps pd pt kw kh kf kz ky wh od tg tr so bd wo be : Nat → Int32} {px fr en ma wr : Int32}
theorem xk_cb58 {post : SX → Prop} {t c : Nat} {w : Int32} (ht : t < 3) (hc' : c < 8) (hq : qc t = nI c) (hp : post (px, st, lf, cd, bg, gv, ob, ol, pb, pn, xp, fh, fl, fa, mk, cb, mi, mb, ml, pa, kb, kl, kc, th, pl, md, cr, hc, hg, hi, ib, il, it, bk_shr qi (t * 8) c w, upd qc t (nI (c + 1)), gc, lc, lr, co)) :
    ∀ f i, i ≤ c → i < f → wX_comeBack_58 post (nI t) w (nI (t * 8)) px f (nI i) st lf cd bg gv ob ol pb pn xp fh fl fa mk cb mi mb ml pa kb kl kc th pl md cr hc hg hi ib il it (bk_sri qi (t * 8) i c) qc gc lc lr co
  | 0, i, _, h => by omega
  | f + 1, 0, _, _ => by
    have ct : (nI t).toNatClampNeg = t := nI_clamp (by omega)
    have c8 : (nI (t * 8)).toNatClampNeg = t * 8 := nI_clamp (by omega)
    refine br_t (by decide) ⟨pk_in (t * 8) 24 (by omega), ?_⟩
    rw [ct, c8, hq, nI_1, bk_sri_0]
    exact nm_e ⟨pk_in t 3 ht, pk_in t 3 ht, nm_e hp⟩
  | f + 1, i + 1, hi', hf => by
    have ix : nI (t * 8) + nI (i + 1) = nI (t * 8 + (i + 1)) := nI_add _ _
    have ip : nI (t * 8 + (i + 1)) - 1 = nI (t * 8 + i) := nI_pred (t * 8 + i)
    have c1 : (nI (t * 8 + (i + 1))).toNatClampNeg = t * 8 + (i + 1) := nI_clamp (by omega)
    have c2 : (nI (t * 8 + i)).toNatClampNeg = t * 8 + i := nI_clamp (by omega)
    refine br_f (nI_nle (by omega) (by omega)) ?_
    rw [ix, ip, c1, c2, bk_sri_o, bk_sri_s _ _ _ _ (by omega)]
    exact ⟨pk_in (t * 8 + i) 24 (by omega), pk_in (t * 8 + (i + 1)) 24 (by omega), nm_e (nm_r (pk_m1 i) (xk_cb58 ht hc' hq hp f i (by omega) (by omega)))⟩
theorem xk_cb_back {post : SX → Prop} {t q c k : Nat} (ht : t < 3) (hq : q < 104) (hit : it q = nI k) (hk : k ≤ 2) (hqc : qc t = nI c) (hc' : c < 8) (hp : post (px, st, lf, cd, bg, gv, ob, ol, pb, pn, xp, fh, fl, fa, mk, cb, mi, mb, ml, pa, kb, kl, kc, th, pl, md, cr, hc, hg, hi, ib, il, it, bk_shr qi (t * 8) c (nI q), upd qc t (nI (c + 1)), gc, lc, lr, co)) : wpX_comeBack post (px, st, lf, cd, bg, gv, ob, ol, pb, pn, xp, fh, fl, fa, mk, cb, mi, mb, ml, pa, kb, kl, kc, th, pl, md, cr, hc, hg, hi, ib, il, it, qi, qc, gc, lc, lr, co) (nI t) (nI q) := by
  have ct : (nI t).toNatClampNeg = t := nI_clamp (by omega)
  have cq : (nI q).toNatClampNeg = q := nI_clamp (by omega)
  have e8 : nI t * 8 = nI (t * 8) := bn_mul t 8
  have w := xk_cb58 (post := post) (t := t) (c := c) (w := nI q) (px := px) ht hc' hqc hp (c + 1) c (Nat.le_refl _) (by omega)
  rw [bk_sri_c] at w
  refine br_f (bk_nm1 (by omega)) ⟨pk_in q 104 hq, ?_⟩
  rw [cq, hit, ct, hqc, e8]
  exact br_f (nI_ge (b := 3) (by omega) (by omega)) ⟨pk_in t 3 ht, br_f (fun e => absurd ((nI_eq (a := c) (b := 8) (by omega) (by omega)).mp e) (by omega)) (nm_e ⟨pk_in t 3 ht, nm_e ⟨c + 1, w⟩⟩)⟩
theorem xk_cb_lost {post : SX → Prop} {t q c k : Nat} (ht : t < 3) (hq : q < 104) (hit : it q = nI k) (hk : k ≤ 3) (hqc : qc t = nI c) (hc' : c ≤ 8) (hl : 3 ≤ k ∨ c = 8) (hp : post (px, st, lf, cd, bg, gv, ob, ol, pb, pn, xp, fh, fl, fa, mk, cb, mi, mb, ml, pa, kb, kl, kc, th, pl, md, cr, hc, hg, hi, ib, upd il q 0, it, qi, qc, gc, upd lc t (lc t + 1), lr, co)) : wpX_comeBack post (px, st, lf, cd, bg, gv, ob, ol, pb, pn, xp, fh, fl, fa, mk, cb, mi, mb, ml, pa, kb, kl, kc, th, pl, md, cr, hc, hg, hi, ib, il, it, qi, qc, gc, lc, lr, co) (nI t) (nI q) := by
  have ct : (nI t).toNatClampNeg = t := nI_clamp (by omega)
  have cq : (nI q).toNatClampNeg = q := nI_clamp (by omega)
  have fin : wX_comeBack_27 post (nI t) (nI q) px st lf cd bg gv ob ol pb pn xp fh fl fa mk cb mi mb ml pa kb kl kc th pl md cr hc hg hi ib il it qi qc gc lc lr co := by
    simp only [wX_comeBack_27, ct, cq, forall_eq]
    exact ⟨pk_in q 104 hq, pk_in t 6 (by omega), pk_in t 6 (by omega), hp⟩
  refine br_f (bk_nm1 (by omega)) ⟨pk_in q 104 hq, ?_⟩
  rw [cq, hit, ct, hqc]
  refine pk_le 3 k (fun _ => fin) (fun h => ⟨pk_in t 3 ht, br_t ?_ fin⟩)
  have : c = 8 := by omega
  rw [this]
  rfl
theorem xk_cb_none {post : SX → Prop} {x : Int32} (hp : post (px, st, lf, cd, bg, gv, ob, ol, pb, pn, xp, fh, fl, fa, mk, cb, mi, mb, ml, pa, kb, kl, kc, th, pl, md, cr, hc, hg, hi, ib, il, it, qi, qc, gc, lc, lr, co)) : wpX_comeBack post (px, st, lf, cd, bg, gv, ob, ol, pb, pn, xp, fh, fl, fa, mk, cb, mi, mb, ml, pa, kb, kl, kc, th, pl, md, cr, hc, hg, hi, ib, il, it, qi, qc, gc, lc, lr, co) x (-1) := br_t rfl hp
/-! Y: back -/
theorem yk_back0 {post : SY → Prop} {r t y : Nat} (h : bk_C B A g st ol th pl md cr lr gv ib il it qi qc ta wh od tg tr so bd fr en) (hr : r < 16) (hpl : pl r = nI t) (ht : t < 6) (hy : y < 112)
    (hs : 3 ≤ t → post (fr, en, ma, wr, st, lf, cd, ta, bg, kc, ob, ol, pb, pn, yp, ki, le, go, mk, cb, mb, ml, la, ps, pd, pt, kw, kh, kf, kz, ky, th, pl, md, cr, gc, lc, lr, upd wh y (-1), od, tg, tr, so, bd, wo, be)) (hl : t < 3 → (A t).length = 8 → post (fr, en, ma, wr, st, lf, cd, ta, bg, kc, ob, ol, pb, pn, yp, ki, le, go, mk, cb, mb, ml, la, ps, pd, pt, kw, kh, kf, kz, ky, th, pl, md, cr, gc, upd lc t (lc t + 1), lr, upd wh y (-1), od, tg, tr, so, bd, wo, be))
    (hb : t < 3 → (A t).length < 8 → post (fr - 1, en, ma, wr, st, lf, cd, ta, bg, kc, ob, ol, pb, pn, yp, ki, le, go, mk, cb, mb, ml, la, ps, pd, pt, kw, kh, kf, kz, ky, th, pl, md, cr, gc, lc, lr, upd wh y (nI t), upd od y (fr - 1), tg, tr, so, bd, wo, be)) : wpY_back post (fr, en, ma, wr, st, lf, cd, ta, bg, kc, ob, ol, pb, pn, yp, ki, le, go, mk, cb, mb, ml, la, ps, pd, pt, kw, kh, kf, kz, ky, th, pl, md, cr, gc, lc, lr, wh, od, tg, tr, so, bd, wo, be) (nI r) (nI y) 0 := by
  have cr' : (nI r).toNatClampNeg = r := nI_clamp (by omega)
  have ct : (nI t).toNatClampNeg = t := nI_clamp (by omega)
  have cy : (nI y).toNatClampNeg = y := nI_clamp (by omega)
  refine ⟨pk_in r 16 hr, nm_r (by rw [cr', hpl]) ?_⟩
  refine pk_le 3 t (fun h3 => ?_) (fun h3 => ?_)
  · refine br_t rfl (br_f (nI_ge (a := 2) (by omega) (by omega)) ⟨pk_in y 112 hy, ?_⟩)
    rw [cy]
    exact nm_e (hs h3)
  · have h8 := (dk_len h).1 t h3
    refine yk_countL h (by omega) (br_t rfl (br_t (nI_le (b := 2) (by omega) (by omega)) ?_))
    refine pk_eq (A t).length 8 (fun e => ?_) (fun e => br_t rfl ?_)
    · simp only [wY_back_77, cy, ct, forall_eq]
      exact ⟨pk_in y 112 hy, pk_in t 6 ht, pk_in t 6 ht, hl h3 e⟩
    · simp only [wY_back_98, cy, forall_eq]
      exact ⟨pk_in y 112 hy, pk_in y 112 hy, hb h3 (by omega)⟩
theorem yk_back1 {post : SY → Prop} {r t y k : Nat} (h : bk_C B A g st ol th pl md cr lr gv ib il it qi qc ta wh od tg tr so bd fr en) (hr : r < 16) (hpl : pl r = nI t) (ht : t < 6) (hy : y < 112) (htr : t < 3 → tr y = nI k ∧ k ≤ 2)
    (hs : 3 ≤ t → post (fr, en, ma, wr, st, lf, cd, ta, bg, kc, ob, ol, pb, pn, yp, ki, le, go, mk, cb, mb, ml, la, ps, pd, pt, kw, kh, kf, kz, ky, th, pl, md, cr, gc, lc, lr, upd wh y (-1), od, tg, upd tr y (tr y + 1), so, bd, wo, be)) (hl : t < 3 → ((A t).length = 8 ∨ k = 2) → post (fr, en, ma, wr, st, lf, cd, ta, bg, kc, ob, ol, pb, pn, yp, ki, le, go, mk, cb, mb, ml, la, ps, pd, pt, kw, kh, kf, kz, ky, th, pl, md, cr, gc, upd lc t (lc t + 1), lr, upd wh y (-1), od, tg, upd tr y (tr y + 1), so, bd, wo, be))
    (hb : t < 3 → (A t).length < 8 → k < 2 → post (fr - 1, en, ma, wr, st, lf, cd, ta, bg, kc, ob, ol, pb, pn, yp, ki, le, go, mk, cb, mb, ml, la, ps, pd, pt, kw, kh, kf, kz, ky, th, pl, md, cr, gc, lc, lr, upd wh y (nI t), upd od y (fr - 1), tg, upd tr y (tr y + 1), so, bd, wo, be)) : wpY_back post (fr, en, ma, wr, st, lf, cd, ta, bg, kc, ob, ol, pb, pn, yp, ki, le, go, mk, cb, mb, ml, la, ps, pd, pt, kw, kh, kf, kz, ky, th, pl, md, cr, gc, lc, lr, wh, od, tg, tr, so, bd, wo, be) (nI r) (nI y) 1 := by
  have cr' : (nI r).toNatClampNeg = r := nI_clamp (by omega)
  have ct : (nI t).toNatClampNeg = t := nI_clamp (by omega)
  have cy : (nI y).toNatClampNeg = y := nI_clamp (by omega)
  refine ⟨pk_in r 16 hr, nm_r (by rw [cr', hpl]) ?_⟩
  refine pk_le 3 t (fun h3 => ?_) (fun h3 => ?_)
  · refine br_f (by decide) ⟨pk_in y 112 hy, pk_in y 112 hy, nm_e (br_f (nI_ge (a := 2) (by omega) (by omega)) ⟨pk_in y 112 hy, ?_⟩)⟩
    rw [cy]
    exact nm_e (hs h3)
  · have h8 := (dk_len h).1 t h3
    obtain ⟨htr, hk⟩ := htr h3
    refine yk_countL h (by omega) (br_f (by decide) ⟨pk_in y 112 hy, pk_in y 112 hy, nm_e (br_t (nI_le (b := 2) (by omega) (by omega)) ?_)⟩)
    have fin : ((A t).length = 8 ∨ k = 2) → wY_back_77 post (nI y) (nI t) fr en ma wr st lf cd ta bg kc ob ol pb pn yp ki le go mk cb mb ml la ps pd pt kw kh kf kz ky th pl md cr gc lc lr wh od tg (upd tr y (tr y + 1)) so bd wo be := by
      intro e
      simp only [wY_back_77, cy, ct, forall_eq]
      exact ⟨pk_in y 112 hy, pk_in t 6 ht, pk_in t 6 ht, hl h3 e⟩
    rw [cy]
    refine pk_eq (A t).length 8 (fun e => fin (Or.inl e)) (fun e => br_f (by decide) ⟨pk_in y 112 hy, ?_⟩)
    rw [pk_us, htr, nI_1]
    refine pk_le (k + 1) 2 (fun e2 => ?_) (fun e2 => ?_)
    · simp only [wY_back_98, cy, forall_eq]
      rw [htr, nI_1] at hb
      exact ⟨pk_in y 112 hy, pk_in y 112 hy, hb h3 (by omega) (by omega)⟩
    · have w := fin (Or.inr (by omega))
      rw [htr, nI_1] at w
      exact w
end BACK
