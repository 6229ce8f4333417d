/-! a session ends; faults -/
section ENDS2
variable {st pl md cr : Nat → Int32}
theorem lk_ends {B : Nat} {A : Nat → List bk_E} {g : Nat → Nat} {ob : Nat → Int32} {ol : Nat → Int32} {gc : Nat → Int32} {lc : Nat → Int32} {lr : Nat → Int32} {gv : Nat → Int32} {th : Nat → Int32} {hc : Nat → Int32} {hg : Nat → Int32} {hi : Nat → Int32} {ib : Nat → Int32} {il : Nat → Int32} {it : Nat → Int32} {qi : Nat → Int32} {qc : Nat → Int32} {ta : Nat → Int32} {wh : Nat → Int32} {od : Nat → Int32} {tg : Nat → Int32} {tr : Nat → Int32} {so : Nat → Int32} {bd : Nat → Int32} {fr : Int32} {en : Int32} (h : bk_C B A g st ol th pl md cr lr gv ib il it qi qc ta wh od tg tr so bd fr en) (rh : bk_RH A hi hg hc) (hB : B + 20 ≤ 100000000) {s : Nat} (hs : s < 4) :
    ∃ d : bk_DT, bk_C (B + 20) (zz_A d) (zz_g d) (upd st s (nI 2)) (zz_ol d) (zz_th d) pl md cr (zz_lr d) (zz_gv d) (zz_ib d) (zz_il d) (zz_it d) (zz_qi d) (zz_qc d) (zz_ta d) (zz_wh d) (zz_od d) (zz_tg d) (zz_tr d) (zz_so d) (zz_bd d) (zz_fr d) (zz_en d) ∧ bk_RH (zz_A d) (zz_hi d) (zz_hg d) (zz_hc d) ∧ (∀ r, r < 16 → r / 4 = s → zz_th d r = 0) ∧ (∀ r, r / 4 ≠ s → zz_th d r = th r) ∧
      (∀ {lf cd bg pb pn xp fh fl fa mk cb mi mb ml pa kb kl kc co : Nat → Int32} {px : Int32} (post : SX → Prop), post (px, upd st s (nI 2), lf, cd, upd bg s 0, zz_gv d, zz_ob d, zz_ol d, pb, pn, upd xp s 0, fh, fl, fa, mk, cb, upd mi s 0, mb, upd ml s 0, pa, kb, kl, upd kc s 0, zz_th d, pl, md, cr, zz_hc d, zz_hg d, zz_hi d, zz_ib d, zz_il d, zz_it d, zz_qi d, zz_qc d, zz_gc d, zz_lc d, zz_lr d, co) → wpX_endSession post (px, st, lf, cd, bg, gv, ob, ol, pb, pn, xp, fh, fl, fa, mk, cb, mi, mb, ml, pa, kb, kl, kc, th, pl, md, cr, hc, hg, hi, ib, il, it, qi, qc, gc, lc, lr, co) (nI s)) ∧
      (∀ {lf cd bg kc pb pn yp ki le go mk cb mb ml la ps pd pt kw kh kf kz ky wo be : Nat → Int32} {ma wr : Int32} (post : SY → Prop), post (zz_fr d, zz_en d, ma, wr, upd st s (nI 2), lf, cd, zz_ta d, upd bg s 0, upd kc s 0, zz_ob d, zz_ol d, pb, pn, upd yp s 0, ki, le, go, mk, cb, mb, upd ml s 0, la, ps, pd, upd pt s 0, kw, kh, kf, kz, ky, zz_th d, pl, md, cr, zz_gc d, zz_lc d, zz_lr d, zz_wh d, zz_od d, zz_tg d, zz_tr d, zz_so d, zz_bd d, wo, be) → wpY_ends post (fr, en, ma, wr, st, lf, cd, ta, bg, kc, ob, ol, pb, pn, yp, ki, le, go, mk, cb, mb, ml, la, ps, pd, pt, kw, kh, kf, kz, ky, th, pl, md, cr, gc, lc, lr, wh, od, tg, tr, so, bd, wo, be) (nI s)) := by
  have cs : (nI s).toNatClampNeg = s := nI_clamp (by omega)
  have i4 : vp_in (nI s) 4 := pk_in s 4 hs
  have h' := dk_st h (s := s) (a := 2) (by omega)
  obtain ⟨d0, h0, r0, t0, z0, x0, y0⟩ := lk_end1 (ob := ob) (gc := gc) (lc := lc) (r := 4 * s) h' rh (by omega) (by omega)
  obtain ⟨d1, h1, r1, t1, z1, x1, y1⟩ := lk_end1 (ob := zz_ob d0) (gc := zz_gc d0) (lc := zz_lc d0) (r := 4 * s + 1) h0 r0 (by omega) (by omega)
  obtain ⟨d2, h2, r2, t2, z2, x2, y2⟩ := lk_end1 (ob := zz_ob d1) (gc := zz_gc d1) (lc := zz_lc d1) (r := 4 * s + 2) h1 r1 (by omega) (by omega)
  obtain ⟨d3, h3, r3, t3, z3, x3, y3⟩ := lk_end1 (ob := zz_ob d2) (gc := zz_gc d2) (lc := zz_lc d2) (r := 4 * s + 3) h2 r2 (by omega) (by omega)
  have thE : zz_th d3 = upd (upd (upd (upd th (4 * s) 0) (4 * s + 1) 0) (4 * s + 2) 0) (4 * s + 3) 0 := by rw [t3, t2, t1, t0]
  refine ⟨d3, h3, r3, ?_, ?_, ?_, ?_⟩
  · intro r hr e
    have : r = 4 * s ∨ r = 4 * s + 1 ∨ r = 4 * s + 2 ∨ r = 4 * s + 3 := by omega
    rw [thE]
    unfold upd
    rcases this with rfl | rfl | rfl | rfl <;> simp
  · intro r e
    rw [thE, pk_un (by omega), pk_un (by omega), pk_un (by omega), pk_un (by omega)]
  · intro lf cd bg pb pn xp fh fl fa mk cb mi mb ml pa kb kl kc co px post hp
    have e0 : nI s * 4 + 0 = nI (4 * s) := by rw [bn_mul, Nat.mul_comm]; exact nI_add (4 * s) 0
    have e1 : nI s * 4 + nI 1 = nI (4 * s + 1) := by rw [bn_mul, nI_add, Nat.mul_comm]
    have e2 : nI s * 4 + nI 2 = nI (4 * s + 2) := by rw [bn_mul, nI_add, Nat.mul_comm]
    have e3 : nI s * 4 + nI 3 = nI (4 * s + 3) := by rw [bn_mul, nI_add, Nat.mul_comm]
    refine ⟨i4, ?_⟩
    rw [cs]
    refine nm_e ⟨5, br_f (by decide) ?_⟩
    rw [e0]
    refine x0 _ (nm_r (nI_1 0) (br_f (by decide) ?_))
    rw [e1]
    refine x1 _ (nm_r (nI_1 1) (br_f (by decide) ?_))
    rw [e2]
    refine x2 _ (nm_r (nI_1 2) (br_f (by decide) ?_))
    rw [e3]
    refine x3 _ (nm_r (nI_1 3) (br_t (by decide) ⟨i4, ?_⟩))
    rw [cs]
    exact nm_e ⟨i4, nm_e ⟨i4, nm_e ⟨i4, nm_e ⟨i4, nm_e hp⟩⟩⟩⟩
  · intro lf cd bg kc pb pn yp ki le go mk cb mb ml la ps pd pt kw kh kf kz ky wo be ma wr post hp
    have e4 : 4 * nI s = nI (4 * s) := bn_mul2 s 4
    have e44 : 4 * nI s + 4 = nI (4 * s + 4) := by rw [bn_mul2, bn_add]
    -- one round of the loop
    have step : ∀ {B : Nat} {A : Nat → List bk_E} {g : Nat → Nat} {ob : Nat → Int32} {ol : Nat → Int32} {gc : Nat → Int32} {lc : Nat → Int32} {lr : Nat → Int32} {gv : Nat → Int32} {th : Nat → Int32} {hc : Nat → Int32} {hg : Nat → Int32} {hi : Nat → Int32} {ib : Nat → Int32} {il : Nat → Int32} {it : Nat → Int32} {qi : Nat → Int32} {qc : Nat → Int32} {ta : Nat → Int32} {wh : Nat → Int32} {od : Nat → Int32} {tg : Nat → Int32} {tr : Nat → Int32} {so : Nat → Int32} {bd : Nat → Int32} {fr : Int32} {en : Int32} (d : bk_DT) (r f : Nat), r < 16 → r < 4 * s + 4 → (th r = 0 → d = (A, g, ob, ol, gc, lc, lr, gv, th, hc, hg, hi, ib, il, it, qi, qc, ta, wh, od, tg, tr, so, bd, fr, en)) → (th r ≠ 0 → ∀ {lf cd bg kc pb pn yp ki le go mk cb mb ml la ps pd pt kw kh kf kz ky wo be : Nat → Int32} {ma wr : Int32} (post : SY → Prop), post (zz_fr d, zz_en d, ma, wr, upd st s (nI 2), lf, cd, zz_ta d, bg, kc, zz_ob d, zz_ol d, pb, pn, yp, ki, le, go, mk, cb, mb, ml, la, ps, pd, pt, kw, kh, kf, kz, ky, zz_th d, pl, md, cr, zz_gc d, zz_lc d, zz_lr d, zz_wh d, zz_od d, zz_tg d, zz_tr d, zz_so d, zz_bd d, wo, be) → wpY_endsOne post (fr, en, ma, wr, upd st s (nI 2), lf, cd, ta, bg, kc, ob, ol, pb, pn, yp, ki, le, go, mk, cb, mb, ml, la, ps, pd, pt, kw, kh, kf, kz, ky, th, pl, md, cr, gc, lc, lr, wh, od, tg, tr, so, bd, wo, be) (nI r)) → wY_ends_11 post (nI s) f (nI (r + 1)) (zz_fr d) (zz_en d) ma wr (upd st s (nI 2)) lf cd (zz_ta d) bg kc (zz_ob d) (zz_ol d) pb pn yp ki le go mk cb mb ml la ps pd pt kw kh kf kz ky (zz_th d) pl md cr (zz_gc d) (zz_lc d) (zz_lr d) (zz_wh d) (zz_od d) (zz_tg d) (zz_tr d) (zz_so d) (zz_bd d) wo be → wY_ends_11 post (nI s) (f + 1) (nI r) fr en ma wr (upd st s (nI 2)) lf cd ta bg kc ob ol pb pn yp ki le go mk cb mb ml la ps pd pt kw kh kf kz ky th pl md cr gc lc lr wh od tg tr so bd wo be := by
      intro B A g ob ol gc lc lr gv th hc hg hi ib il it qi qc ta wh od tg tr so bd fr en d r f hr hr4 hz hy hn
      have cr' : (nI r).toNatClampNeg = r := nI_clamp (by omega)
      refine br_f (by rw [e44]; exact nI_ge hr4 (by omega)) ⟨pk_in r 16 hr, ?_⟩
      rw [cr']
      by_cases e : th r = 0
      · have hd := hz e
        subst hd
        exact br_t e (nm_r (nI_1 r) hn)
      · exact br_f e (hy e _ (nm_r (nI_1 r) hn))
    refine ⟨i4, ?_⟩
    rw [cs]
    refine nm_e (nm_r e4 ⟨5, ?_⟩)
    refine step (B := 0) d0 (4 * s) 4 (by omega) (by omega) z0 y0 ?_
    refine step (B := 0) d1 (4 * s + 1) 3 (by omega) (by omega) z1 y1 ?_
    refine step (B := 0) d2 (4 * s + 2) 2 (by omega) (by omega) z2 y2 ?_
    refine step (B := 0) d3 (4 * s + 3) 1 (by omega) (by omega) z3 y3 ?_
    refine br_t (by rw [e44]; exact nI_le (Nat.le_refl _) (by omega)) ⟨i4, ?_⟩
    rw [cs, bn_b0]
    exact nm_e ⟨i4, nm_e ⟨i4, nm_e ⟨i4, nm_e ⟨i4, nm_e hp⟩⟩⟩⟩
theorem lk_fault {B : Nat} {A : Nat → List bk_E} {g : Nat → Nat} {ob : Nat → Int32} {ol : Nat → Int32} {gc : Nat → Int32} {lc : Nat → Int32} {lr : Nat → Int32} {gv : Nat → Int32} {th : Nat → Int32} {hc : Nat → Int32} {hg : Nat → Int32} {hi : Nat → Int32} {ib : Nat → Int32} {il : Nat → Int32} {it : Nat → Int32} {qi : Nat → Int32} {qc : Nat → Int32} {ta : Nat → Int32} {wh : Nat → Int32} {od : Nat → Int32} {tg : Nat → Int32} {tr : Nat → Int32} {so : Nat → Int32} {bd : Nat → Int32} {fr : Int32} {en : Int32} (h : bk_C B A g st ol th pl md cr lr gv ib il it qi qc ta wh od tg tr so bd fr en) (rh : bk_RH A hi hg hc) (hB : B + 20 ≤ 100000000) {s : Nat} (hs : s < 4) (x : Int32) :
    ∃ d : bk_DT, bk_C (B + 20) (zz_A d) (zz_g d) (upd st s (nI 2)) (zz_ol d) (zz_th d) pl md cr (zz_lr d) (zz_gv d) (zz_ib d) (zz_il d) (zz_it d) (zz_qi d) (zz_qc d) (zz_ta d) (zz_wh d) (zz_od d) (zz_tg d) (zz_tr d) (zz_so d) (zz_bd d) (zz_fr d) (zz_en d) ∧ bk_RH (zz_A d) (zz_hi d) (zz_hg d) (zz_hc d) ∧ (∀ r, r < 16 → r / 4 = s → zz_th d r = 0) ∧ (∀ r, r / 4 ≠ s → zz_th d r = th r) ∧
      (∀ {lf cd bg pb pn xp fh fl fa mk cb mi mb ml pa kb kl kc co : Nat → Int32} {px : Int32} (post : SX → Prop), post (px, upd st s (nI 2), upd lf s x, cd, upd bg s 0, zz_gv d, zz_ob d, zz_ol d, pb, pn, upd xp s 0, fh, fl, fa, mk, cb, upd mi s 0, mb, upd ml s 0, pa, kb, kl, upd kc s 0, zz_th d, pl, md, cr, zz_hc d, zz_hg d, zz_hi d, zz_ib d, zz_il d, zz_it d, zz_qi d, zz_qc d, zz_gc d, zz_lc d, zz_lr d, co) → wpX_fail post (px, st, lf, cd, bg, gv, ob, ol, pb, pn, xp, fh, fl, fa, mk, cb, mi, mb, ml, pa, kb, kl, kc, th, pl, md, cr, hc, hg, hi, ib, il, it, qi, qc, gc, lc, lr, co) (nI s) x) ∧
      (∀ {lf cd bg kc pb pn yp ki le go mk cb mb ml la ps pd pt kw kh kf kz ky wo be : Nat → Int32} {ma wr : Int32} (post : SY → Prop), post (zz_fr d, zz_en d, ma, wr, upd st s (nI 2), upd lf s x, cd, zz_ta d, upd bg s 0, upd kc s 0, zz_ob d, zz_ol d, pb, pn, upd yp s 0, ki, le, go, mk, cb, mb, upd ml s 0, la, ps, pd, upd pt s 0, kw, kh, kf, kz, ky, zz_th d, pl, md, cr, zz_gc d, zz_lc d, zz_lr d, zz_wh d, zz_od d, zz_tg d, zz_tr d, zz_so d, zz_bd d, upd wo 0 x, be) → wpY_faults post (fr, en, ma, wr, st, lf, cd, ta, bg, kc, ob, ol, pb, pn, yp, ki, le, go, mk, cb, mb, ml, la, ps, pd, pt, kw, kh, kf, kz, ky, th, pl, md, cr, gc, lc, lr, wh, od, tg, tr, so, bd, wo, be) (nI s) x) := by
  have cs : (nI s).toNatClampNeg = s := nI_clamp (by omega)
  have i4 : vp_in (nI s) 4 := pk_in s 4 hs
  obtain ⟨_, _, _, ⟨a, ha, ea⟩, _⟩ := h.2.2.2.1 s hs
  by_cases room : a + 2 + 1 ≤ 240
  · have w := dk_ol h (s := s) (a := a + 3) (by omega)
    obtain ⟨d, h1, r1, q1, q2, x1, y1⟩ := lk_ends (ob := upd (upd (upd ob (240 * s + a) (128 + 8)) (240 * s + (a + 1)) 1) (240 * s + (a + 2)) x) (gc := gc) (lc := lc) w rh hB hs
    refine ⟨d, h1, r1, q1, q2, ?_, ?_⟩
    · intro lf cd bg pb pn xp fh fl fa mk cb mi mb ml pa kb kl kc co px post hp
      refine ⟨i4, ?_⟩
      rw [cs]
      refine nm_e (xk_hasRoom (n := 1) hs ea ha (by omega) (fun _ => br_f (by decide) ?_) (fun z => by omega))
      refine xk_startFrame hs ea (by omega) (xk_put hs pk_us (by omega) ?_)
      rw [bk_uu]
      exact x1 _ hp
    · intro lf cd bg kc pb pn yp ki le go mk cb mb ml la ps pd pt kw kh kf kz ky wo be ma wr post hp
      refine ⟨i4, ?_⟩
      rw [cs]
      refine nm_e (nm_e (yk_write (n := 1) (k := 8) hs ea ha (by omega) (fun _ => ?_) (fun z => by omega)))
      exact y1 _ hp
  · obtain ⟨d, h1, r1, q1, q2, x1, y1⟩ := lk_ends (ob := ob) (gc := gc) (lc := lc) h rh hB hs
    refine ⟨d, h1, r1, q1, q2, ?_, ?_⟩
    · intro lf cd bg pb pn xp fh fl fa mk cb mi mb ml pa kb kl kc co px post hp
      refine ⟨i4, ?_⟩
      rw [cs]
      refine nm_e (xk_hasRoom (n := 1) hs ea ha (by omega) (fun z => by omega) (fun _ => br_t rfl ?_))
      exact x1 _ hp
    · intro lf cd bg kc pb pn yp ki le go mk cb mb ml la ps pd pt kw kh kf kz ky wo be ma wr post hp
      refine ⟨i4, ?_⟩
      rw [cs]
      refine nm_e (nm_e (yk_write (n := 1) (k := 8) hs ea ha (by omega) (fun z => by omega) (fun _ => ?_)))
      exact y1 _ hp
end ENDS2
