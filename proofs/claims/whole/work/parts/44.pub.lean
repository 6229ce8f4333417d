/-! the relation at a turn's head; the smaller calls -/
def i_Rel (k : Nat) (u : SX) (v : SY) : Prop := ∃ (A' : Nat → List bk_E) (g' : Nat → Nat) (px' : Int32) (st' : Nat → Int32) (lf' : Nat → Int32) (cd' : Nat → Int32) (bg' : Nat → Int32) (gv' : Nat → Int32) (ob' : Nat → Int32) (ol' : Nat → Int32) (pb' : Nat → Int32) (pn' : Nat → Int32) (xp' : Nat → Int32) (fh' : Nat → Int32) (fl' : Nat → Int32) (fa' : Nat → Int32) (mk' : Nat → Int32) (cb' : Nat → Int32) (mi' : Nat → Int32) (mb' : Nat → Int32) (ml' : Nat → Int32) (pa' : Nat → Int32) (kb' : Nat → Int32) (kl' : Nat → Int32) (kc' : Nat → Int32) (th' : Nat → Int32) (pl' : Nat → Int32) (md' : Nat → Int32) (cr' : Nat → Int32) (hc' : Nat → Int32) (hg' : Nat → Int32) (hi' : Nat → Int32) (ib' : Nat → Int32) (il' : Nat → Int32) (it' : Nat → Int32) (qi' : Nat → Int32) (qc' : Nat → Int32) (gc' : Nat → Int32) (lc' : Nat → Int32) (lr' : Nat → Int32) (co' : Nat → Int32) (fr' : Int32) (en' : Int32) (ma' : Int32) (wr' : Int32) (ta' : Nat → Int32) (yp' : Nat → Int32) (ki' : Nat → Int32) (le' : Nat → Int32) (go' : Nat → Int32) (la' : Nat → Int32) (ps' : Nat → Int32) (pd' : Nat → Int32) (pt' : Nat → Int32) (kw' : Nat → Int32) (kh' : Nat → Int32) (kf' : Nat → Int32) (kz' : Nat → Int32) (ky' : Nat → Int32) (wh' : Nat → Int32) (od' : Nat → Int32) (tg' : Nat → Int32) (tr' : Nat → Int32) (so' : Nat → Int32) (bd' : Nat → Int32) (wo' : Nat → Int32) (be' : Nat → Int32), u = (px', st', lf', cd', bg', gv', ob', ol', pb', pn', xp', fh', fl', fa', mk', cb', mi', mb', ml', pa', kb', kl', kc', th', pl', md', cr', hc', hg', hi', ib', il', it', qi', qc', gc', lc', lr', co') ∧ v = (fr', en', ma', wr', st', lf', cd', ta', bg', kc', ob', ol', pb', pn', yp', ki', le', go', mk', cb', mb', ml', la', ps', pd', pt', kw', kh', kf', kz', ky', th', pl', md', cr', gc', lc', lr', wh', od', tg', tr', so', bd', wo', be') ∧ bk_S (1000 * k) A' g' st' ol' th' pl' md' cr' lr' gv' ib' il' it' qi' qc' ta' wh' od' tg' tr' so' bd' fr' en' hc' hg' hi' kc' kb' kl' kw' kh' kf' kz' ky' mk' cb' mb' pb' pn' bg' be' ml' xp' fh' fl' fa' mi' yp' ki' le' go' la' ps' pd' pt'
theorem i_up {k : Nat} {u : SX} {v : SY} (h : i_Rel k u v) : i_Rel (k + 5) u v := by
  obtain ⟨A', g', px', st', lf', cd', bg', gv', ob', ol', pb', pn', xp', fh', fl', fa', mk', cb', mi', mb', ml', pa', kb', kl', kc', th', pl', md', cr', hc', hg', hi', ib', il', it', qi', qc', gc', lc', lr', co', fr', en', ma', wr', ta', yp', ki', le', go', la', ps', pd', pt', kw', kh', kf', kz', ky', wh', od', tg', tr', so', bd', wo', be', e1, e2, h⟩ := h
  exact ⟨A', g', px', st', lf', cd', bg', gv', ob', ol', pb', pn', xp', fh', fl', fa', mk', cb', mi', mb', ml', pa', kb', kl', kc', th', pl', md', cr', hc', hg', hi', ib', il', it', qi', qc', gc', lc', lr', co', fr', en', ma', wr', ta', yp', ki', le', go', la', ps', pd', pt', kw', kh', kf', kz', ky', wh', od', tg', tr', so', bd', wo', be', e1, e2, bk_S_mono h (by omega)⟩
theorem iv_n {x : Int32} {K : Nat} (hK : K < 1000) (h : x < 1 ∨ nI K < x) : x - 1 < 0 ∨ nI K ≤ x - 1 := by
  have e : (x - 1).toInt = (x.toInt - 1).bmod (2 ^ 32) := by rw [Int32.toInt_sub]; rfl
  have lo := Int32.le_toInt x
  have hi := Int32.toInt_lt x
  rw [Int32.lt_iff_toInt_lt, Int32.lt_iff_toInt_lt, nI_toInt (by omega), show (1 : Int32).toInt = 1 from by decide] at h
  rw [Int32.lt_iff_toInt_lt, Int32.le_iff_toInt_le, nI_toInt (by omega), show (0 : Int32).toInt = 0 from by decide]
  by_cases m : x.toInt = -2147483648
  · rw [m] at e
    have : (-2147483648 - 1 : Int).bmod (2 ^ 32) = 2147483647 := by decide
    rw [this] at e
    right
    omega
  · have e2 : (x.toInt - 1).bmod (2 ^ 32) = x.toInt - 1 := Int.bmod_eq_of_le (by omega) (by omega)
    rw [e2] at e
    omega
theorem iv_x {x : Int32} {K : Nat} (hK : K < 1000) : (x < 1 ∨ nI K < x) ∨ ∃ n : Nat, 1 ≤ n ∧ n ≤ K ∧ x = nI n := by
  rcases pk_ix x (n := K + 1) (by omega) with a | a | ⟨n, hn, rfl⟩
  · left; left
    rw [Int32.lt_iff_toInt_lt, show (0 : Int32).toInt = 0 from by decide] at a
    rw [Int32.lt_iff_toInt_lt, show (1 : Int32).toInt = 1 from by decide]
    omega
  · left; right
    rw [Int32.le_iff_toInt_le, nI_toInt (by omega)] at a
    rw [Int32.lt_iff_toInt_lt, nI_toInt (by omega)]
    omega
  · by_cases z : n = 0
    · subst z; left; left; decide
    · right; exact ⟨n, by omega, by omega, rfl⟩
theorem yk_in0 {post : Int32 → Prop} {x : Int32} {N : Nat} (h : x < 0 ∨ nI N ≤ x) (hp : post 0) : wpY_in post x (nI N) := by
  refine br_c (fun _ => hp) (fun n => br_t ?_ hp)
  rcases h with h | h
  · exact absurd h n
  · exact h
theorem yk_in1 {post : Int32 → Prop} {s N : Nat} (h : s < N) (hN : N < 1000) (hp : post 1) : wpY_in post (nI s) (nI N) := br_f (nI_pos (by omega)) (br_f (nI_ge h (by omega)) hp)
section PUB
variable {B : Nat} {A : Nat → List bk_E} {g : Nat → Nat} {st lf cd bg gv ob ol pb pn xp fh fl fa mk cb mi mb ml pa kb kl kc th pl md cr hc hg hi ib il it qi qc gc lc lr co ta yp ki le go la ps pd pt kw kh kf kz ky wh od tg tr so bd wo be : Nat → Int32} {px fr en ma wr : Int32}
theorem xk_isS0 {post : Int32 → Prop} {x : Int32} (h : x < 0 ∨ nI 4 ≤ x) (hp : post 0) : wpX_isSession post (px, st, lf, cd, bg, gv, ob, ol, pb, pn, xp, fh, fl, fa, mk, cb, mi, mb, ml, pa, kb, kl, kc, th, pl, md, cr, hc, hg, hi, ib, il, it, qi, qc, gc, lc, lr, co) x := by
  refine br_c (fun _ => hp) (fun n => br_t ?_ hp)
  rcases h with h | h
  · exact absurd h n
  · exact h
theorem xk_isS1 {post : Int32 → Prop} {s : Nat} (h : s < 4) (hp : post 1) : wpX_isSession post (px, st, lf, cd, bg, gv, ob, ol, pb, pn, xp, fh, fl, fa, mk, cb, mi, mb, ml, pa, kb, kl, kc, th, pl, md, cr, hc, hg, hi, ib, il, it, qi, qc, gc, lc, lr, co) (nI s) := br_f (nI_pos (by omega)) (br_f (nI_ge (b := 4) h (by omega)) hp)
end PUB
theorem i_vc_open {k : Nat} {u : SX} {v : SY} (I : i_Rel k u v) (hk : k + 5 ≤ 2560) (v1 : Int32) : wpX_open (fun r u' => wpY_open (fun r' v' => r' = r ∧ i_Rel (k + 5) u' v') v v1) u v1 := by
  obtain ⟨A, g, px, st, lf, cd, bg, gv, ob, ol, pb, pn, xp, fh, fl, fa, mk, cb, mi, mb, ml, pa, kb, kl, kc, th, pl, md, cr, hc, hg, hi, ib, il, it, qi, qc, gc, lc, lr, co, fr, en, ma, wr, ta, yp, ki, le, go, la, ps, pd, pt, kw, kh, kf, kz, ky, wh, od, tg, tr, so, bd, wo, be, rfl, rfl, h⟩ := I
  have same : i_Rel (k + 5) (px, st, lf, cd, bg, gv, ob, ol, pb, pn, xp, fh, fl, fa, mk, cb, mi, mb, ml, pa, kb, kl, kc, th, pl, md, cr, hc, hg, hi, ib, il, it, qi, qc, gc, lc, lr, co) (fr, en, ma, wr, st, lf, cd, ta, bg, kc, ob, ol, pb, pn, yp, ki, le, go, mk, cb, mb, ml, la, ps, pd, pt, kw, kh, kf, kz, ky, th, pl, md, cr, gc, lc, lr, wh, od, tg, tr, so, bd, wo, be) := ⟨A, g, px, st, lf, cd, bg, gv, ob, ol, pb, pn, xp, fh, fl, fa, mk, cb, mi, mb, ml, pa, kb, kl, kc, th, pl, md, cr, hc, hg, hi, ib, il, it, qi, qc, gc, lc, lr, co, fr, en, ma, wr, ta, yp, ki, le, go, la, ps, pd, pt, kw, kh, kf, kz, ky, wh, od, tg, tr, so, bd, wo, be, rfl, rfl, bk_S_mono h (by omega)⟩
  unfold wpX_open
  rcases pk_ix v1 (n := 4) (by omega) with a | a | ⟨s, hs, rfl⟩
  · refine xk_isS0 (Or.inl a) (br_t rfl ?_)
    unfold wpY_open
    exact yk_in0 (N := 4) (Or.inl a) (br_t rfl ⟨rfl, same⟩)
  · refine xk_isS0 (Or.inr a) (br_t rfl ?_)
    unfold wpY_open
    exact yk_in0 (N := 4) (Or.inr a) (br_t rfl ⟨rfl, same⟩)
  · have cs : (nI s).toNatClampNeg = s := nI_clamp (by omega)
    have i4 : vp_in (nI s) 4 := pk_in s 4 hs
    refine xk_isS1 hs (br_f (by decide) ⟨i4, ?_⟩)
    rw [cs]
    by_cases e : st s = 0
    · refine br_t e ⟨i4, nm_e ?_⟩
      unfold wpY_open
      refine yk_in1 (N := 4) hs (by omega) (br_f (by decide) ⟨i4, ?_⟩)
      rw [cs]
      refine br_t e ⟨i4, nm_e ⟨rfl, A, g, px, upd st s 1, lf, cd, bg, gv, ob, ol, pb, pn, xp, fh, fl, fa, mk, cb, mi, mb, ml, pa, kb, kl, kc, th, pl, md, cr, hc, hg, hi, ib, il, it, qi, qc, gc, lc, lr, co, fr, en, ma, wr, ta, yp, ki, le, go, la, ps, pd, pt, kw, kh, kf, kz, ky, wh, od, tg, tr, so, bd, wo, be, rfl, rfl, ?_⟩⟩
      obtain ⟨⟨h1, h2, h3, h4, h5, h6, h7, h8⟩, hF⟩ := bk_S_mono h (show 1000 * k ≤ 1000 * (k + 5) by omega)
      refine ⟨⟨dk_st (a := 1) h1 (by omega), h2, h3, h4, h5, h6, fun z hz => ?_, h8⟩, hF⟩
      by_cases ez : z = s
      · subst ez; exact Or.inl pk_us
      · rw [pk_un ez]; exact h7 z hz
    · refine br_f e ?_
      unfold wpY_open
      refine yk_in1 (N := 4) hs (by omega) (br_f (by decide) ⟨i4, ?_⟩)
      rw [cs]
      exact br_f e ⟨rfl, same⟩
theorem i_vc_feed {k : Nat} {u : SX} {v : SY} (I : i_Rel k u v) (hk : k + 5 ≤ 2560) (v1 : Int32) (a1 : Int64) (v4 : Int32) : wpX_feed (fun r u' => wpY_feed (fun r' v' => r' = r ∧ i_Rel (k + 5) u' v') v v1 a1 v4) u v1 a1 v4 := by
  obtain ⟨A, g, px, st, lf, cd, bg, gv, ob, ol, pb, pn, xp, fh, fl, fa, mk, cb, mi, mb, ml, pa, kb, kl, kc, th, pl, md, cr, hc, hg, hi, ib, il, it, qi, qc, gc, lc, lr, co, fr, en, ma, wr, ta, yp, ki, le, go, la, ps, pd, pt, kw, kh, kf, kz, ky, wh, od, tg, tr, so, bd, wo, be, rfl, rfl, h⟩ := I
  have same : i_Rel (k + 5) (px, st, lf, cd, bg, gv, ob, ol, pb, pn, xp, fh, fl, fa, mk, cb, mi, mb, ml, pa, kb, kl, kc, th, pl, md, cr, hc, hg, hi, ib, il, it, qi, qc, gc, lc, lr, co) (fr, en, ma, wr, st, lf, cd, ta, bg, kc, ob, ol, pb, pn, yp, ki, le, go, mk, cb, mb, ml, la, ps, pd, pt, kw, kh, kf, kz, ky, th, pl, md, cr, gc, lc, lr, wh, od, tg, tr, so, bd, wo, be) := ⟨A, g, px, st, lf, cd, bg, gv, ob, ol, pb, pn, xp, fh, fl, fa, mk, cb, mi, mb, ml, pa, kb, kl, kc, th, pl, md, cr, hc, hg, hi, ib, il, it, qi, qc, gc, lc, lr, co, fr, en, ma, wr, ta, yp, ki, le, go, la, ps, pd, pt, kw, kh, kf, kz, ky, wh, od, tg, tr, so, bd, wo, be, rfl, rfl, bk_S_mono h (by omega)⟩
  unfold wpX_feed
  rcases pk_ix v1 (n := 4) (by omega) with a | a | ⟨s, hs, rfl⟩
  · refine xk_isS0 (Or.inl a) (br_t rfl ?_)
    unfold wpY_feed
    exact yk_in0 (N := 4) (Or.inl a) (br_t rfl ⟨rfl, same⟩)
  · refine xk_isS0 (Or.inr a) (br_t rfl ?_)
    unfold wpY_feed
    exact yk_in0 (N := 4) (Or.inr a) (br_t rfl ⟨rfl, same⟩)
  · have cs : (nI s).toNatClampNeg = s := nI_clamp (by omega)
    have i4 : vp_in (nI s) 4 := pk_in s 4 hs
    refine xk_isS1 hs (br_f (by decide) ?_)
    rcases iv_x (x := v4) (K := 8) (by omega) with bad | ⟨n, hn1, hn8, rfl⟩
    · have yb : wpY_feed (fun r' v' => r' = -1 ∧ i_Rel (k + 5) (px, st, lf, cd, bg, gv, ob, ol, pb, pn, xp, fh, fl, fa, mk, cb, mi, mb, ml, pa, kb, kl, kc, th, pl, md, cr, hc, hg, hi, ib, il, it, qi, qc, gc, lc, lr, co) v') (fr, en, ma, wr, st, lf, cd, ta, bg, kc, ob, ol, pb, pn, yp, ki, le, go, mk, cb, mb, ml, la, ps, pd, pt, kw, kh, kf, kz, ky, th, pl, md, cr, gc, lc, lr, wh, od, tg, tr, so, bd, wo, be) (nI s) a1 v4 := by
        unfold wpY_feed
        exact yk_in1 (N := 4) hs (by omega) (br_f (by decide) (yk_in0 (N := 8) (iv_n (by omega) bad) (br_t rfl ⟨rfl, same⟩)))
      refine br_c (fun _ => yb) (fun q => br_t ?_ yb)
      rcases bad with w | w
      · exact absurd w q
      · exact w
    · refine br_f (nI_nlt (b := 1) hn1 (by omega)) (br_f (nI_nlt (a := 8) hn8 (by omega)) ⟨i4, ?_⟩)
      rw [cs]
      have e1 : nI n - 1 = nI (n - 1) := pk_sub (a := n) (b := 1) hn1
      by_cases o : st s = 1
      · obtain ⟨r, hh⟩ := lk_feed hs hn8 a1 n (px := px) (st := st) (lf := lf) (cd := cd) (bg := bg) (gv := gv) (ob := ob) (ol := ol) (pb := pb) (pn := pn) (xp := xp) (fh := fh) (fl := fl) (fa := fa) (mk := mk) (cb := cb) (mi := mi) (mb := mb) (ml := ml) (pa := pa) (kb := kb) (kl := kl) (kc := kc) (th := th) (pl := pl) (md := md) (cr := cr) (hc := hc) (hg := hg) (hi := hi) (ib := ib) (il := il) (it := it) (qi := qi) (qc := qc) (gc := gc) (lc := lc) (lr := lr) (co := co) (fr := fr) (en := en) (ma := ma) (wr := wr) (ta := ta) (yp := yp) (ki := ki) (le := le) (go := go) (la := la) (ps := ps) (pd := pd) (pt := pt) (kw := kw) (kh := kh) (kf := kf) (kz := kz) (ky := ky) (wh := wh) (od := od) (tg := tg) (tr := tr) (so := so) (bd := bd) (wo := wo) (be := be) (Nat.le_refl _) h (by omega)
        obtain ⟨A2, g2, px2, st2, lf2, cd2, bg2, gv2, ob2, ol2, pb2, pn2, xp2, fh2, fl2, fa2, mk2, cb2, mi2, mb2, ml2, pa2, kb2, kl2, kc2, th2, pl2, md2, cr2, hc2, hg2, hi2, ib2, il2, it2, qi2, qc2, gc2, lc2, lr2, co2, fr2, en2, ma2, wr2, ta2, yp2, ki2, le2, go2, la2, ps2, pd2, pt2, kw2, kh2, kf2, kz2, ky2, wh2, od2, tg2, tr2, so2, bd2, wo2, be2, h3, x3, y3⟩ := hh
        simp only [Nat.sub_self] at x3 y3
        refine br_t o ⟨n + 1, x3 _ (n + 1) (by omega) ?_⟩
        unfold wpY_feed
        refine yk_in1 (N := 4) hs (by omega) (br_f (by decide) ?_)
        rw [e1]
        refine yk_in1 (N := 8) (by omega) (by omega) (br_f (by decide) ⟨i4, ?_⟩)
        rw [cs]
        exact br_t o ⟨n + 1, y3 _ (n + 1) (by omega) ⟨rfl, A2, g2, px2, st2, lf2, cd2, bg2, gv2, ob2, ol2, pb2, pn2, xp2, fh2, fl2, fa2, mk2, cb2, mi2, mb2, ml2, pa2, kb2, kl2, kc2, th2, pl2, md2, cr2, hc2, hg2, hi2, ib2, il2, it2, qi2, qc2, gc2, lc2, lr2, co2, fr2, en2, ma2, wr2, ta2, yp2, ki2, le2, go2, la2, ps2, pd2, pt2, kw2, kh2, kf2, kz2, ky2, wh2, od2, tg2, tr2, so2, bd2, wo2, be2, rfl, rfl, bk_S_mono h3 (by omega)⟩⟩
      · refine br_f o ?_
        unfold wpY_feed
        refine yk_in1 (N := 4) hs (by omega) (br_f (by decide) ?_)
        rw [e1]
        refine yk_in1 (N := 8) (by omega) (by omega) (br_f (by decide) ⟨i4, ?_⟩)
        rw [cs]
        exact br_f o ⟨rfl, same⟩
