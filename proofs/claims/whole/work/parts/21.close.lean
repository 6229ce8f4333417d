/-! a transaction's end -/
section MOVE
variable {B : Nat} {A : Nat → List bk_E} {g : Nat → Nat} {st lf cd bg gv ob ol pb pn xp fh fl fa mk cb mi mb ml pa kb kl kc th pl md cr hc hg hi ib il it qi qc gc lc lr co ta yp ki le go la ps pd pt kw kh kf kz ky wh od tg tr so bd wo be : Nat → Int32} {px fr en ma wr : Int32}
theorem xk_move2 {post : SX → Prop} {f t : Nat} (hf : f < 28) (ht : t < 28) (hp : post (px, st, lf, cd, bg, gv, ob, ol, pb, pn, xp, fh, fl, fa, mk, cb, mi, mb, ml, pa, bk_mv kb (t * 19) (fun k => kb (f * 19 + k)) 19, upd kl t (kl f), kc, th, pl, md, cr, hc, hg, hi, ib, il, it, qi, qc, gc, lc, lr, co)) :
    ∀ n k, k ≤ 19 → 19 - k < n → wX_moveKept_2 post (nI f) (nI t) px n (nI k) st lf cd bg gv ob ol pb pn xp fh fl fa mk cb mi mb ml pa (bk_mv kb (t * 19) (fun k => kb (f * 19 + k)) k) kl kc th pl md cr hc hg hi ib il it qi qc gc lc lr co
  | 0, k, _, h => by omega
  | n + 1, k, h1, h2 => by
    have cf : (nI f).toNatClampNeg = f := nI_clamp (by omega)
    have ct : (nI t).toNatClampNeg = t := nI_clamp (by omega)
    have e1 : nI f * 19 + nI k = nI (f * 19 + k) := by rw [bn_mul, nI_add]
    have e2 : nI t * 19 + nI k = nI (t * 19 + k) := by rw [bn_mul, nI_add]
    have c1 : (nI (f * 19 + k)).toNatClampNeg = f * 19 + k := nI_clamp (by omega)
    have c2 : (nI (t * 19 + k)).toNatClampNeg = t * 19 + k := nI_clamp (by omega)
    refine pk_le 19 k (fun g => ⟨pk_in f 28 hf, pk_in t 28 ht, ?_⟩) (fun g => ?_)
    · have : k = 19 := by omega
      subst this
      rw [cf, ct]
      exact nm_e hp
    · rw [e1, e2, c1, c2, bk_mv_o kb (t * 19) _ k (f * 19 + k) (by omega)]
      exact ⟨vp_in_nI (by omega) (by omega), vp_in_nI (by omega) (by omega), nm_e (nm_r (nI_1 k) (xk_move2 hf ht hp n (k + 1) (by omega) (by omega)))⟩
theorem xk_move {post : SX → Prop} {f t : Nat} (hf : f < 28) (ht : t < 28) (hp : post (px, st, lf, cd, bg, gv, ob, ol, pb, pn, xp, fh, fl, fa, mk, cb, mi, mb, ml, pa, bk_mv kb (t * 19) (fun k => kb (f * 19 + k)) 19, upd kl t (kl f), kc, th, pl, md, cr, hc, hg, hi, ib, il, it, qi, qc, gc, lc, lr, co)) : wpX_moveKept post (px, st, lf, cd, bg, gv, ob, ol, pb, pn, xp, fh, fl, fa, mk, cb, mi, mb, ml, pa, kb, kl, kc, th, pl, md, cr, hc, hg, hi, ib, il, it, qi, qc, gc, lc, lr, co) (nI f) (nI t) :=
  ⟨20, xk_move2 hf ht hp 20 0 (by omega) (by omega)⟩
theorem xk_drop13 {post : SX → Prop} {s c : Nat} {x : Int32} (hs : s < 4) (hc7 : c ≤ 7)
    (hp : post (px, st, lf, cd, bg, gv, ob, ol, pb, pn, xp, fh, fl, fa, mk, cb, mi, mb, ml, pa, bk_cw 19 kb (s * 7) (fun j => kb ((s * 7 + j) * 19 + 2)) x c, bk_c1 kl (s * 7) (fun j => kb ((s * 7 + j) * 19 + 2)) x c, upd kc s (nI (bk_nr (fun j => kb ((s * 7 + j) * 19 + 2)) x c)), th, pl, md, cr, hc, hg, hi, ib, il, it, qi, qc, gc, lc, lr, co)) :
    ∀ f i, i ≤ c → c - i < f → wX_dropKept_13 post (nI s) x (nI c) f (nI (bk_nr (fun j => kb ((s * 7 + j) * 19 + 2)) x i)) (nI i) px st lf cd bg gv ob ol pb pn xp fh fl fa mk cb mi mb ml pa (bk_cw 19 kb (s * 7) (fun j => kb ((s * 7 + j) * 19 + 2)) x i) (bk_c1 kl (s * 7) (fun j => kb ((s * 7 + j) * 19 + 2)) x i) kc th pl md cr hc hg hi ib il it qi qc gc lc lr co
  | 0, i, _, h => by omega
  | f + 1, i, h1, h2 => by
    have cs : (nI s).toNatClampNeg = s := nI_clamp (by omega)
    have le := bk_nr_le (fun j => kb ((s * 7 + j) * 19 + 2)) x i
    have e1 : nI s * 7 + nI i = nI (s * 7 + i) := by rw [bn_mul, nI_add]
    have e2 : nI (s * 7 + i) * 19 + 2 = nI ((s * 7 + i) * 19 + 2) := by rw [bn_mul, bn_add]
    have c2 : (nI ((s * 7 + i) * 19 + 2)).toNatClampNeg = (s * 7 + i) * 19 + 2 := nI_clamp (by omega)
    refine pk_le c i (fun g => ⟨pk_in s 4 hs, ?_⟩) (fun g => nm_r e1 ?_)
    · have : i = c := by omega
      subst this
      rw [cs]
      exact nm_e hp
    · rw [e2, c2, bk_cw_o 19 kb (s * 7) _ x i (s * 7 + i) 2 (by omega) (by omega)]
      refine ⟨vp_in_nI (by omega) (by omega), ?_⟩
      have ih := xk_drop13 hs hc7 hp f (i + 1) (by omega) (by omega)
      by_cases z : kb ((s * 7 + i) * 19 + 2) = x
      · refine br_t z (nm_r (nI_1 i) ?_)
        rw [bk_nr_eq (fun j => kb ((s * 7 + j) * 19 + 2)) x (n := i) z, bk_cw_t 19 kb (s * 7) (fun j => kb ((s * 7 + j) * 19 + 2)) x i z, bk_c1_t kl (s * 7) (fun j => kb ((s * 7 + j) * 19 + 2)) x i z] at ih
        exact ih
      · have e3 : nI s * 7 + nI (bk_nr (fun j => kb ((s * 7 + j) * 19 + 2)) x i) = nI (s * 7 + bk_nr (fun j => kb ((s * 7 + j) * 19 + 2)) x i) := by rw [bn_mul, nI_add]
        refine br_f z ?_
        rw [e3]
        refine xk_move (by omega) (by omega) (nm_r (nI_1 _) (nm_r (nI_1 i) ?_))
        rw [bk_nr_up (fun j => kb ((s * 7 + j) * 19 + 2)) x (n := i) z, bk_cw_f 19 kb (s * 7) (fun j => kb ((s * 7 + j) * 19 + 2)) x i z, bk_c1_f kl (s * 7) (fun j => kb ((s * 7 + j) * 19 + 2)) x i z] at ih
        exact ih
theorem xk_dropKept {post : SX → Prop} {s c : Nat} {x : Int32} (hs : s < 4) (hc7 : c ≤ 7) (hk : kc s = nI c)
    (hp : post (px, st, lf, cd, bg, gv, ob, ol, pb, pn, xp, fh, fl, fa, mk, cb, mi, mb, ml, pa, bk_cw 19 kb (s * 7) (fun j => kb ((s * 7 + j) * 19 + 2)) x c, bk_c1 kl (s * 7) (fun j => kb ((s * 7 + j) * 19 + 2)) x c, upd kc s (nI (bk_nr (fun j => kb ((s * 7 + j) * 19 + 2)) x c)), th, pl, md, cr, hc, hg, hi, ib, il, it, qi, qc, gc, lc, lr, co)) : wpX_dropKept post (px, st, lf, cd, bg, gv, ob, ol, pb, pn, xp, fh, fl, fa, mk, cb, mi, mb, ml, pa, kb, kl, kc, th, pl, md, cr, hc, hg, hi, ib, il, it, qi, qc, gc, lc, lr, co) (nI s) x := by
  have cs : (nI s).toNatClampNeg = s := nI_clamp (by omega)
  refine ⟨pk_in s 4 hs, ?_⟩
  rw [cs, hk]
  exact nm_e ⟨c + 1, xk_drop13 hs hc7 hp (c + 1) 0 (by omega) (by omega)⟩
/-! Y -/
theorem yk_move50 {post : SY → Prop} {f t : Nat} (hf : f < 24) (ht : t < 24) (hp : post (fr, en, ma, wr, st, lf, cd, ta, bg, kc, ob, ol, pb, pn, yp, ki, le, go, mk, cb, mb, ml, la, ps, pd, pt, kw, kh, kf, kz, bk_mv ky (t * 16) (fun k => ky (f * 16 + k)) 16, th, pl, md, cr, gc, lc, lr, wh, od, tg, tr, so, bd, wo, be)) :
    ∀ n k, k ≤ 16 → 16 - k < n → wY_move_50 post (nI f) (nI t) fr en ma wr n (nI k) st lf cd ta bg kc ob ol pb pn yp ki le go mk cb mb ml la ps pd pt kw kh kf kz (bk_mv ky (t * 16) (fun k => ky (f * 16 + k)) k) th pl md cr gc lc lr wh od tg tr so bd wo be
  | 0, k, _, h => by omega
  | n + 1, k, h1, h2 => by
    have e1 : 16 * nI f + nI k = nI (f * 16 + k) := by rw [bn_mul2, nI_add, Nat.mul_comm]
    have e2 : 16 * nI t + nI k = nI (t * 16 + k) := by rw [bn_mul2, nI_add, Nat.mul_comm]
    have c1 : (nI (f * 16 + k)).toNatClampNeg = f * 16 + k := nI_clamp (by omega)
    have c2 : (nI (t * 16 + k)).toNatClampNeg = t * 16 + k := nI_clamp (by omega)
    refine pk_le 16 k (fun g => ?_) (fun g => ?_)
    · have : k = 16 := by omega
      subst this
      exact hp
    · rw [e1, e2, c1, c2, bk_mv_o ky (t * 16) _ k (f * 16 + k) (by omega)]
      exact ⟨vp_in_nI (by omega) (by omega), vp_in_nI (by omega) (by omega), nm_e (nm_r (nI_1 k) (yk_move50 hf ht hp n (k + 1) (by omega) (by omega)))⟩
theorem yk_move {post : SY → Prop} {f t : Nat} (hf : f < 24) (ht : t < 24) (hp : post (fr, en, ma, wr, st, lf, cd, ta, bg, kc, ob, ol, pb, pn, yp, ki, le, go, mk, cb, mb, ml, la, ps, pd, pt, upd kw t (kw f), upd kh t (kh f), upd kf t (kf f), upd kz t (kz f), bk_mv ky (t * 16) (fun k => ky (f * 16 + k)) 16, th, pl, md, cr, gc, lc, lr, wh, od, tg, tr, so, bd, wo, be)) : wpY_move post (fr, en, ma, wr, st, lf, cd, ta, bg, kc, ob, ol, pb, pn, yp, ki, le, go, mk, cb, mb, ml, la, ps, pd, pt, kw, kh, kf, kz, ky, th, pl, md, cr, gc, lc, lr, wh, od, tg, tr, so, bd, wo, be) (nI f) (nI t) := by
  have cf : (nI f).toNatClampNeg = f := nI_clamp (by omega)
  have ct : (nI t).toNatClampNeg = t := nI_clamp (by omega)
  have i1 : vp_in (nI f) 24 := pk_in f 24 hf
  have i2 : vp_in (nI t) 24 := pk_in t 24 ht
  unfold wpY_move
  dsimp only
  rw [cf, ct]
  exact ⟨i1, i2, nm_e ⟨i1, i2, nm_e ⟨i1, i2, nm_e ⟨i1, i2, nm_e ⟨17, yk_move50 (kw := upd kw t (kw f)) (kh := upd kh t (kh f)) (kf := upd kf t (kf f)) (kz := upd kz t (kz f)) hf ht hp 17 0 (by omega) (by omega)⟩⟩⟩⟩⟩
theorem yk_close74 {post : Int32 → SY → Prop} {J29 : Int32 → Int32 → Int32 → Int32 → Int32 → Int32 → (Nat → Int32) → (Nat → Int32) → (Nat → Int32) → (Nat → Int32) → (Nat → Int32) → (Nat → Int32) → (Nat → Int32) → (Nat → Int32) → (Nat → Int32) → (Nat → Int32) → (Nat → Int32) → (Nat → Int32) → (Nat → Int32) → (Nat → Int32) → (Nat → Int32) → (Nat → Int32) → (Nat → Int32) → (Nat → Int32) → (Nat → Int32) → (Nat → Int32) → (Nat → Int32) → (Nat → Int32) → (Nat → Int32) → (Nat → Int32) → (Nat → Int32) → (Nat → Int32) → (Nat → Int32) → (Nat → Int32) → (Nat → Int32) → (Nat → Int32) → (Nat → Int32) → (Nat → Int32) → (Nat → Int32) → (Nat → Int32) → (Nat → Int32) → (Nat → Int32) → (Nat → Int32) → (Nat → Int32) → (Nat → Int32) → (Nat → Int32) → (Nat → Int32) → (Nat → Int32) → Prop} {x1 x2 x3 x4 x5 : Int32} {q n : Nat} (hq : q < 24) (hn : n ≤ 16) (hz : kz q = nI n)
    (hend : ∀ f, wY_closes_74 post J29 x1 x2 x3 x4 x5 (nI q) fr en ma wr (f + 1) (nI n) st lf cd ta bg kc ob ol pb pn yp ki le go mk cb mb ml la ps pd pt kw kh kf kz ky th pl md cr gc lc lr wh od tg tr so bd (bk_mv wo 3 (fun k => ky (q * 16 + k)) n) be) :
    ∀ f k, k ≤ n → n - k < f → wY_closes_74 post J29 x1 x2 x3 x4 x5 (nI q) fr en ma wr f (nI k) st lf cd ta bg kc ob ol pb pn yp ki le go mk cb mb ml la ps pd pt kw kh kf kz ky th pl md cr gc lc lr wh od tg tr so bd (bk_mv wo 3 (fun k => ky (q * 16 + k)) k) be
  | 0, k, _, h => by omega
  | f + 1, k, h1, h2 => by
    by_cases e : k = n
    · subst e; exact hend f
    · have cq : (nI q).toNatClampNeg = q := nI_clamp (by omega)
      have e1 : 16 * nI q + nI k = nI (q * 16 + k) := by rw [bn_mul2, nI_add, Nat.mul_comm]
      have e2 : 3 + nI k = nI (3 + k) := bn_add2 k 3
      have c1 : (nI (q * 16 + k)).toNatClampNeg = q * 16 + k := nI_clamp (by omega)
      have c2 : (nI (3 + k)).toNatClampNeg = 3 + k := nI_clamp (by omega)
      refine ⟨pk_in q 24 hq, ?_⟩
      rw [cq, hz, e1, e2, c1, c2]
      refine br_f (nI_ge (by omega) (by omega)) ⟨vp_in_nI (by omega) (by omega), vp_in_nI (by omega) (by omega), nm_e (nm_r (nI_1 k) ?_)⟩
      exact yk_close74 hq hn hz hend f (k + 1) (by omega) (by omega)
end MOVE
