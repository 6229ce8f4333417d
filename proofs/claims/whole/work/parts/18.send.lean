/-! sending -/
def bk_mv (f : Nat → Int32) (b : Nat) (w : Nat → Int32) : Nat → Nat → Int32
  | 0 => f
  | n + 1 => upd (bk_mv f b w n) (b + n) (w n)
theorem bk_mv_o (f : Nat → Int32) (b : Nat) (w : Nat → Int32) : ∀ n k, (k < b ∨ b + n ≤ k) → bk_mv f b w n k = f k
  | 0, _, _ => rfl
  | n + 1, k, h => by
    unfold bk_mv
    rw [pk_un (by omega)]
    exact bk_mv_o f b w n k (by omega)
theorem bk_mv_i (f : Nat → Int32) (b : Nat) (w : Nat → Int32) : ∀ n j, j < n → bk_mv f b w n (b + j) = w j
  | 0, j, h => by omega
  | n + 1, j, h => by
    unfold bk_mv
    by_cases e : j = n
    · subst e; exact pk_us
    · rw [pk_un (by omega)]
      exact bk_mv_i f b w n j (by omega)
theorem bk_mv_congr (f : Nat → Int32) (b : Nat) (w w' : Nat → Int32) : ∀ n, (∀ j, j < n → w j = w' j) → bk_mv f b w n = bk_mv f b w' n
  | 0, _ => rfl
  | n + 1, h => by
    unfold bk_mv
    rw [bk_mv_congr f b w w' n (fun j hj => h j (by omega)), h n (by omega)]
section SEND
variable {B : Nat} {A : Nat → List bk_E} {g : Nat → Nat} {st lf cd bg gv ob ol pb pn xp fh fl fa mk cb mi mb ml pa kb kl kc th pl md cr hc hg hi ib il it qi qc gc lc lr co ta yp ki le go la ps pd pt kw kh kf kz ky wh od tg tr so bd wo be : Nat → Int32} {px fr en ma wr : Int32}
theorem xk_freeItem {post : Int32 → Prop} {q : Nat} (hq : q < 104) (h0 : il q = 0) (hl : ∀ j, j < q → il j ≠ 0) (hp : post (nI q)) : wpX_freeItem post (px, st, lf, cd, bg, gv, ob, ol, pb, pn, xp, fh, fl, fa, mk, cb, mi, mb, ml, pa, kb, kl, kc, th, pl, md, cr, hc, hg, hi, ib, il, it, qi, qc, gc, lc, lr, co) := by
  have key : ∀ f j, j ≤ q → q - j < f → wX_freeItem_2 post px st lf cd bg gv ob ol pb pn xp fh fl fa mk cb mi mb ml pa kb kl kc th pl md cr hc hg hi ib il it qi qc gc lc lr co f (nI j) := by
    intro f
    induction f with
    | zero => intro j _ h; omega
    | succ f ih =>
      intro j h1 h2
      have cj : (nI j).toNatClampNeg = j := nI_clamp (by omega)
      refine br_f (nI_ge (b := 104) (by omega) (by omega)) ⟨pk_in j 104 (by omega), ?_⟩
      rw [cj]
      by_cases e : j = q
      · subst e; exact br_t h0 hp
      · exact br_f (hl j (by omega)) (nm_r (nI_1 j) (ih (j + 1) (by omega) (by omega)))
  exact ⟨q + 1, key (q + 1) 0 (by omega) (by omega)⟩
theorem xk_freeNone {post : Int32 → Prop} (hl : ∀ j, j < 104 → il j ≠ 0) (hp : post (-1)) : wpX_freeItem post (px, st, lf, cd, bg, gv, ob, ol, pb, pn, xp, fh, fl, fa, mk, cb, mi, mb, ml, pa, kb, kl, kc, th, pl, md, cr, hc, hg, hi, ib, il, it, qi, qc, gc, lc, lr, co) := by
  have key : ∀ f j, j ≤ 104 → 104 - j < f → wX_freeItem_2 post px st lf cd bg gv ob ol pb pn xp fh fl fa mk cb mi mb ml pa kb kl kc th pl md cr hc hg hi ib il it qi qc gc lc lr co f (nI j) := by
    intro f
    induction f with
    | zero => intro j _ h; omega
    | succ f ih =>
      intro j h1 h2
      have cj : (nI j).toNatClampNeg = j := nI_clamp (by omega)
      refine pk_le 104 j (fun _ => hp) (fun g => ⟨pk_in j 104 g, ?_⟩)
      rw [cj]
      exact br_f (hl j g) (nm_r (nI_1 j) (ih (j + 1) (by omega) (by omega)))
  exact ⟨105, key 105 0 (by omega) (by omega)⟩
theorem yk_make33 {post : Int32 → SY → Prop} {y n : Nat} (hy : y < 112) (hn : n ≤ 16) (hp : post (nI y) (fr, en, ma, wr, st, lf, cd, ta, bg, kc, ob, ol, pb, pn, yp, ki, le, go, mk, cb, mb, ml, la, ps, pd, pt, kw, kh, kf, kz, ky, th, pl, md, cr, gc, lc, lr, wh, od, tg, tr, so, bk_mv bd (16 * y) (fun k => wo (3 + k)) n, wo, be)) :
    ∀ f k, k ≤ n → n - k < f → wY_make_33 post (nI n) (nI y) fr en ma wr f (nI k) st lf cd ta bg kc ob ol pb pn yp ki le go mk cb mb ml la ps pd pt kw kh kf kz ky th pl md cr gc lc lr wh od tg tr so (bk_mv bd (16 * y) (fun k => wo (3 + k)) k) wo be
  | 0, k, _, h => by omega
  | f + 1, k, h1, h2 => by
    have e1 : 3 + nI k = nI (3 + k) := bn_add2 k 3
    have e2 : 16 * nI y + nI k = nI (16 * y + k) := by rw [bn_mul2, nI_add]
    have c1 : (nI (3 + k)).toNatClampNeg = 3 + k := nI_clamp (by omega)
    have c2 : (nI (16 * y + k)).toNatClampNeg = 16 * y + k := nI_clamp (by omega)
    refine pk_le n k (fun g => ?_) (fun g => ?_)
    · have : k = n := by omega
      subst this
      exact hp
    · rw [e1, e2, c1, c2]
      exact ⟨vp_in_nI (by omega) (by omega), vp_in_nI (by omega) (by omega), nm_e (nm_r (nI_1 k) (yk_make33 hy hn hp f (k + 1) (by omega) (by omega)))⟩
theorem yk_make {post : Int32 → SY → Prop} {y n : Nat} (hy : y < 112) (hn : n ≤ 16) (hw : wh y = -1) (hl : ∀ j, j < y → ¬ wh j < 0) (hp : post (nI y) (fr, en, ma, wr, st, lf, cd, ta, bg, kc, ob, ol, pb, pn, yp, ki, le, go, mk, cb, mb, ml, la, ps, pd, pt, kw, kh, kf, kz, ky, th, pl, md, cr, gc, lc, lr, wh, od, tg, upd tr y 0, upd so y (nI n), bk_mv bd (16 * y) (fun k => wo (3 + k)) n, wo, be)) : wpY_make post (fr, en, ma, wr, st, lf, cd, ta, bg, kc, ob, ol, pb, pn, yp, ki, le, go, mk, cb, mb, ml, la, ps, pd, pt, kw, kh, kf, kz, ky, th, pl, md, cr, gc, lc, lr, wh, od, tg, tr, so, bd, wo, be) (nI n) := by
  have key : ∀ f j, j ≤ y → y - j < f → wY_make_2 post (nI n) fr en ma wr st lf cd ta bg kc ob ol pb pn yp ki le go mk cb mb ml la ps pd pt kw kh kf kz ky th pl md cr gc lc lr wh od tg tr so bd wo be f (nI j) := by
    intro f
    induction f with
    | zero => intro j _ h; omega
    | succ f ih =>
      intro j h1 h2
      have cj : (nI j).toNatClampNeg = j := nI_clamp (by omega)
      refine ⟨pk_in j 112 (by omega), ?_⟩
      rw [cj]
      by_cases e : j = y
      · subst e
        refine br_t (by rw [hw]; exact bk_m1lt) ⟨pk_in j 112 hy, nm_e ⟨pk_in j 112 hy, nm_e ⟨n + 1, ?_⟩⟩⟩
        exact yk_make33 (tr := upd tr j 0) (so := upd so j (nI n)) hy hn hp (n + 1) 0 (by omega) (by omega)
      · exact br_f (hl j (by omega)) (nm_r (nI_1 j) (ih (j + 1) (by omega) (by omega)))
  exact ⟨y + 1, key (y + 1) 0 (by omega) (by omega)⟩
theorem xk_sq78 {post : SX → Prop} {p t q n c : Nat} (hp' : p < 28) (ht : t < 3) (hq : q < 104) (hn : n ≤ 16) (hc' : qc t = nI c) (hc8 : c < 8)
    (hp : post (px, st, lf, cd, bg, gv, ob, ol, pb, pn, xp, fh, fl, fa, mk, cb, mi, mb, ml, pa, kb, kl, kc, th, pl, md, cr, hc, hg, hi, bk_mv ib (q * 16) (fun k => kb (p * 19 + 3 + k)) n, il, it, upd qi (t * 8 + c) (nI q), upd qc t (nI (c + 1)), gc, lc, lr, co)) :
    ∀ f k, k ≤ n → n - k < f → wX_sendToQueue_78 post (nI (p * 19)) (nI t) (nI q) (nI n) px f (nI k) st lf cd bg gv ob ol pb pn xp fh fl fa mk cb mi mb ml pa kb kl kc th pl md cr hc hg hi (bk_mv ib (q * 16) (fun k => kb (p * 19 + 3 + k)) k) il it qi qc gc lc lr co
  | 0, k, _, h => by omega
  | f + 1, k, h1, h2 => by
    have ct : (nI t).toNatClampNeg = t := nI_clamp (by omega)
    have e1 : nI (p * 19) + 3 + nI k = nI (p * 19 + 3 + k) := by rw [bn_add, nI_add]
    have e2 : nI q * 16 + nI k = nI (q * 16 + k) := by rw [bn_mul, nI_add]
    have e3 : nI t * 8 + nI c = nI (t * 8 + c) := by rw [bn_mul, nI_add]
    have c1 : (nI (p * 19 + 3 + k)).toNatClampNeg = p * 19 + 3 + k := nI_clamp (by omega)
    have c2 : (nI (q * 16 + k)).toNatClampNeg = q * 16 + k := nI_clamp (by omega)
    have c3 : (nI (t * 8 + c)).toNatClampNeg = t * 8 + c := nI_clamp (by omega)
    refine pk_le n k (fun g => ⟨pk_in t 3 ht, ?_⟩) (fun g => ?_)
    · have : k = n := by omega
      subst this
      rw [ct, hc', e3, c3, nI_1]
      exact ⟨vp_in_nI (by omega) (by omega), nm_e ⟨pk_in t 3 ht, pk_in t 3 ht, nm_e hp⟩⟩
    · rw [e1, e2, c1, c2]
      exact ⟨vp_in_nI (by omega) (by omega), vp_in_nI (by omega) (by omega), nm_e (nm_r (nI_1 k) (xk_sq78 hp' ht hq hn hc' hc8 hp f (k + 1) (by omega) (by omega)))⟩
end SEND
section SEND2
variable {st pl md cr : Nat → Int32}
theorem bk_freeYL {B : Nat} {A : Nat → List bk_E} {g : Nat → Nat} {ol th lr gv ib il it qi qc ta wh od tg tr so bd : Nat → Int32} {fr en : Int32} (h : bk_C B A g st ol th pl md cr lr gv ib il it qi qc ta wh od tg tr so bd fr en) : ∃ y, y < 112 ∧ wh y = -1 ∧ ∀ j, j < y → ¬ wh j < 0 := by
  obtain ⟨y, ⟨hy, hw⟩, hl⟩ := pk_least _ (bk_freeY h.1)
  refine ⟨y, hy, hw, fun j hj x => ?_⟩
  rcases h.1.2.2.1 j (by omega) with w | ⟨L, p, hL, hp, rfl⟩
  · exact hl j hj ⟨by omega, w⟩
  · rw [(h.1.1 L p hL hp).2.1] at x
    exact absurd x (nI_pos (by omega))
theorem lk_sendQ {B : Nat} {A : Nat → List bk_E} {g : Nat → Nat} {ob : Nat → Int32} {ol : Nat → Int32} {gc : Nat → Int32} {lc : Nat → Int32} {lr : Nat → Int32} {gv : Nat → Int32} {th : Nat → Int32} {hc : Nat → Int32} {hg : Nat → Int32} {hi : Nat → Int32} {ib : Nat → Int32} {il : Nat → Int32} {it : Nat → Int32} {qi : Nat → Int32} {qc : Nat → Int32} {ta : Nat → Int32} {wh : Nat → Int32} {od : Nat → Int32} {tg : Nat → Int32} {tr : Nat → Int32} {so : Nat → Int32} {bd : Nat → Int32} {fr : Int32} {en : Int32} (h : bk_C B A g st ol th pl md cr lr gv ib il it qi qc ta wh od tg tr so bd fr en) (rh : bk_RH A hi hg hc) (hB : B + 1 ≤ 100000000) {t n : Nat} (ht : t < 3) (hn1 : 1 ≤ n) (hn : n ≤ 16) (w : Nat → Int32) :
    ∃ d : bk_DT, bk_C (B + 1) (zz_A d) (zz_g d) st (zz_ol d) (zz_th d) pl md cr (zz_lr d) (zz_gv d) (zz_ib d) (zz_il d) (zz_it d) (zz_qi d) (zz_qc d) (zz_ta d) (zz_wh d) (zz_od d) (zz_tg d) (zz_tr d) (zz_so d) (zz_bd d) (zz_fr d) (zz_en d) ∧ bk_RH (zz_A d) (zz_hi d) (zz_hg d) (zz_hc d) ∧ zz_th d = th ∧
      (∀ {lf cd bg pb pn xp fh fl fa mk cb mi mb ml pa kb kl kc co : Nat → Int32} {px : Int32} (post : SX → Prop) (p : Nat), p < 28 → kb (p * 19 + 1) = nI t → kl p = nI (n + 3) → (∀ j, j < n → kb (p * 19 + 3 + j) = w j) → post (px, st, lf, cd, bg, zz_gv d, zz_ob d, zz_ol d, pb, pn, xp, fh, fl, fa, mk, cb, mi, mb, ml, pa, kb, kl, kc, zz_th d, pl, md, cr, zz_hc d, zz_hg d, zz_hi d, zz_ib d, zz_il d, zz_it d, zz_qi d, zz_qc d, zz_gc d, zz_lc d, zz_lr d, co) → wpX_sendToQueue post (px, st, lf, cd, bg, gv, ob, ol, pb, pn, xp, fh, fl, fa, mk, cb, mi, mb, ml, pa, kb, kl, kc, th, pl, md, cr, hc, hg, hi, ib, il, it, qi, qc, gc, lc, lr, co) (nI p)) ∧
      (∀ {lf cd bg kc pb pn yp ki le go mk cb mb ml la ps pd pt kw kh kf kz ky wo be : Nat → Int32} {ma wr : Int32} (post : SY → Prop), (∀ j, j < n → wo (3 + j) = w j) → post (zz_fr d, zz_en d, ma, wr, st, lf, cd, zz_ta d, bg, kc, zz_ob d, zz_ol d, pb, pn, yp, ki, le, go, mk, cb, mb, ml, la, ps, pd, pt, kw, kh, kf, kz, ky, zz_th d, pl, md, cr, zz_gc d, zz_lc d, zz_lr d, zz_wh d, zz_od d, zz_tg d, zz_tr d, zz_so d, zz_bd d, wo, be) → wpY_send post (fr, en, ma, wr, st, lf, cd, ta, bg, kc, ob, ol, pb, pn, yp, ki, le, go, mk, cb, mb, ml, la, ps, pd, pt, kw, kh, kf, kz, ky, th, pl, md, cr, gc, lc, lr, wh, od, tg, tr, so, bd, wo, be) (nI t) (nI n)) := by
  have ct : (nI t).toNatClampNeg = t := nI_clamp (by omega)
  have hqc := (h.2.1 t ht).1
  have h8 := (dk_len h).1 t ht
  by_cases e8 : (A t).length = 8
  · refine ⟨(A, g, ob, ol, gc, upd lc t (lc t + 1), lr, gv, th, hc, hg, hi, ib, il, it, qi, qc, ta, wh, od, tg, tr, so, bd, fr, en), dk_mono h (by omega), rh, rfl, ?_, ?_⟩
    · intro lf cd bg pb pn xp fh fl fa mk cb mi mb ml pa kb kl kc co px post p hp28 k1 k2 k3 hp
      have cp : (nI p).toNatClampNeg = p := nI_clamp (by omega)
      have e19 : nI p * 19 = nI (p * 19) := bn_mul p 19
      have c1 : (nI (p * 19 + 1)).toNatClampNeg = p * 19 + 1 := nI_clamp (by omega)
      have q8 : qc (nI t).toNatClampNeg = 8 := by rw [ct, hqc, e8]; rfl
      have fin : wX_sendToQueue_37 post (nI t) px st lf cd bg gv ob ol pb pn xp fh fl fa mk cb mi mb ml pa kb kl kc th pl md cr hc hg hi ib il it qi qc gc lc lr co := by
        simp only [wX_sendToQueue_37, ct, forall_eq]
        exact ⟨pk_in t 6 (by omega), pk_in t 6 (by omega), hp⟩
      refine nm_r e19 ?_
      rw [nI_1, c1, k1]
      refine ⟨vp_in_nI (by omega) (by omega), nm_e ?_⟩
      by_cases free : ∃ q, q < 104 ∧ il q = 0
      · obtain ⟨q, ⟨hq, h0⟩, hl⟩ := pk_least _ free
        exact xk_freeItem hq h0 (fun j hj z => hl j hj ⟨by omega, z⟩) ⟨pk_in t 3 ht, br_t q8 fin⟩
      · exact xk_freeNone (fun j hj z => free ⟨j, hj, z⟩) ⟨pk_in t 3 ht, br_t q8 fin⟩
    · intro lf cd bg kc pb pn yp ki le go mk cb mb ml la ps pd pt kw kh kf kz ky wo be ma wr post k3 hp
      refine br_f (nI_ge (b := 3) (by omega) (by omega)) (yk_countL h (by omega) (br_t (by rw [e8]; rfl) ⟨pk_in t 6 (by omega), pk_in t 6 (by omega), ?_⟩))
      rw [ct]
      exact nm_e hp
  · obtain ⟨y, hy, hw, hyl⟩ := bk_freeYL h
    obtain ⟨q, ⟨hq, h0⟩, hql⟩ := pk_least _ (bk_freeX h.1 ht (by omega))
    have r := dk_send h rh (by omega) (n := n) (y := y) (q := q) (it' := upd it q 0) (ib' := bk_mv ib (q * 16) w n) (tr' := upd tr y 0) (so' := upd so y (nI n)) (bd' := bk_mv bd (16 * y) w n) ht (by omega) hn1 hn hq h0 hy hw
      (fun z hz ne => ⟨pk_un ne, fun j hj => bk_mv_o ib (q * 16) w n _ (by omega)⟩)
      (fun z hz ne => ⟨pk_un ne, pk_un ne, fun j hj => bk_mv_o bd (16 * y) w n _ (by omega)⟩) pk_us pk_us pk_us
      (fun j hj => by rw [bk_mv_i ib (q * 16) w n j hj, bk_mv_i bd (16 * y) w n j hj])
    refine ⟨(bk_set A t (A t ++ [(nI q, y, 0)]), g, ob, ol, gc, lc, lr, gv, th, hc, hg, hi, bk_mv ib (q * 16) w n, upd il q (nI n), upd it q 0, upd qi (t * 8 + (A t).length) (nI q), upd qc t (nI ((A t).length + 1)), ta, upd wh y (nI t), upd od y (en + 1), tg, upd tr y 0, upd so y (nI n), bk_mv bd (16 * y) w n, fr, en + 1), r.1, r.2, rfl, ?_, ?_⟩
    · intro lf cd bg pb pn xp fh fl fa mk cb mi mb ml pa kb kl kc co px post p hp28 k1 k2 k3 hp
      have cp : (nI p).toNatClampNeg = p := nI_clamp (by omega)
      have cq : (nI q).toNatClampNeg = q := nI_clamp (by omega)
      have e19 : nI p * 19 = nI (p * 19) := bn_mul p 19
      have c1 : (nI (p * 19 + 1)).toNatClampNeg = p * 19 + 1 := nI_clamp (by omega)
      have e3 : nI (n + 3) - 3 = nI n := (pk_sub (a := n + 3) (b := 3) (by omega)).trans (congrArg nI (by omega))
      refine nm_r e19 ?_
      rw [nI_1, c1, k1]
      refine ⟨vp_in_nI (by omega) (by omega), nm_e (xk_freeItem hq h0 (fun j hj z => hql j hj ⟨by omega, z⟩) ⟨pk_in t 3 ht, ?_⟩)⟩
      rw [ct, hqc]
      refine br_f (fun e => e8 ((nI_eq (a := (A t).length) (b := 8) (by omega) (by omega)).mp e)) (br_f (bk_nm1 (by omega)) ⟨pk_in p 28 hp28, ?_⟩)
      rw [cp, k2, cq, e3]
      refine nm_e ⟨pk_in q 104 hq, nm_e ⟨pk_in q 104 hq, nm_e ⟨n + 1, ?_⟩⟩⟩
      have m := bk_mv_congr ib (q * 16) (fun k => kb (p * 19 + 3 + k)) w n k3
      exact xk_sq78 (il := upd il q (nI n)) (it := upd it q 0) hp28 ht hq hn hqc (by omega) (by rw [m]; exact hp) (n + 1) 0 (by omega) (by omega)
    · intro lf cd bg kc pb pn yp ki le go mk cb mb ml la ps pd pt kw kh kf kz ky wo be ma wr post k3 hp
      have cy : (nI y).toNatClampNeg = y := nI_clamp (by omega)
      have m := bk_mv_congr bd (16 * y) (fun k => wo (3 + k)) w n k3
      refine br_f (nI_ge (b := 3) (by omega) (by omega)) (yk_countL h (by omega) (br_f (fun e => e8 ((nI_eq (a := (A t).length) (b := 8) (by omega) (by omega)).mp e)) (yk_make hy hn hw hyl ?_)))
      rw [m]
      refine ⟨pk_in y 112 hy, ?_⟩
      rw [cy]
      exact nm_e (nm_e ⟨pk_in y 112 hy, nm_e hp⟩)
end SEND2
