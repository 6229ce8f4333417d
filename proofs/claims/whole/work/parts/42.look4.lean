section LK4
variable {B : Nat} {A : Nat → List bk_E} {g : Nat → Nat} {st lf cd bg gv ob ol pb pn xp fh fl fa mk cb mi mb ml pa kb kl kc th pl md cr hc hg hi ib il it qi qc gc lc lr co ta yp ki le go la ps pd pt kw kh kf kz ky wh od tg tr so bd wo be : Nat → Int32} {px fr en ma wr : Int32}
theorem xk_readData {post : Int32 → SX → Prop} {s b b0 a n z v : Nat} (hs : s < 4) (hb0 : b0 < 256) (hfh : fh s = nI b0) (ha : a < n) (hn : n ≤ 200) (hn16 : 8 ≤ b0 % 16 → n ≤ 16) (hfa : fa s = nI a) (hfl : fl s = nI n) (hml : ml s = nI z) (hz : b0 % 16 < 8 → z < 200) (hv : nI b ^^^ mk (4 * s + a % 4) = nI v)
    (hc1 : 8 ≤ b0 % 16 → a + 1 = n → post 16 (px, st, lf, cd, bg, gv, ob, ol, pb, pn, xp, fh, fl, upd fa s (nI (a + 1)), mk, upd cb (16 * s + a) (nI v), mi, mb, ml, pa, kb, kl, kc, th, pl, md, cr, hc, hg, hi, ib, il, it, qi, qc, gc, lc, lr, co)) (hc0 : 8 ≤ b0 % 16 → a + 1 ≠ n → post 0 (px, st, lf, cd, bg, gv, ob, ol, pb, pn, xp, fh, fl, upd fa s (nI (a + 1)), mk, upd cb (16 * s + a) (nI v), mi, mb, ml, pa, kb, kl, kc, th, pl, md, cr, hc, hg, hi, ib, il, it, qi, qc, gc, lc, lr, co))
    (hm1 : b0 % 16 < 8 → a + 1 = n → post 16 (px, st, lf, cd, bg, gv, ob, ol, pb, pn, xp, fh, fl, upd fa s (nI (a + 1)), mk, cb, mi, upd mb (200 * s + z) (nI v), upd ml s (nI (z + 1)), pa, kb, kl, kc, th, pl, md, cr, hc, hg, hi, ib, il, it, qi, qc, gc, lc, lr, co)) (hm0 : b0 % 16 < 8 → a + 1 ≠ n → post 0 (px, st, lf, cd, bg, gv, ob, ol, pb, pn, xp, fh, fl, upd fa s (nI (a + 1)), mk, cb, mi, upd mb (200 * s + z) (nI v), upd ml s (nI (z + 1)), pa, kb, kl, kc, th, pl, md, cr, hc, hg, hi, ib, il, it, qi, qc, gc, lc, lr, co)) : wpX_readData post (px, st, lf, cd, bg, gv, ob, ol, pb, pn, xp, fh, fl, fa, mk, cb, mi, mb, ml, pa, kb, kl, kc, th, pl, md, cr, hc, hg, hi, ib, il, it, qi, qc, gc, lc, lr, co) (nI s) (nI b) := by
  have cs : (nI s).toNatClampNeg = s := nI_clamp (by omega)
  have i4 : vp_in (nI s) 4 := pk_in s 4 hs
  have er : nI a - nI a / 4 * 4 = nI (a % 4) := pk_rem (a := a) (d := 4) (by omega) (by decide) (by decide)
  have e4 : nI s * 4 + nI (a % 4) = nI (4 * s + a % 4) := by rw [bn_mul, nI_add, Nat.mul_comm]
  have c4 : (nI (4 * s + a % 4)).toNatClampNeg = 4 * s + a % 4 := nI_clamp (by omega)
  refine ⟨i4, ?_⟩
  rw [cs, hfa]
  refine nm_e ⟨by decide, ?_⟩
  rw [er, e4, c4, hv]
  refine ⟨vp_in_nI (by omega) (by omega), nm_e (xk_isControl hs hb0 hfh (fun k => br_t rfl ⟨i4, ?_⟩) (fun k => br_f (by decide) ?_))⟩
  · have hz' := hz k
    have e2 : nI s * 200 + nI z = nI (200 * s + z) := by rw [bn_mul, nI_add, Nat.mul_comm]
    have c2 : (nI (200 * s + z)).toNatClampNeg = 200 * s + z := nI_clamp (by omega)
    rw [hml, e2, c2, nI_1 z]
    refine ⟨vp_in_nI (by omega) (by omega), nm_e ⟨i4, i4, nm_e ⟨i4, ?_⟩⟩⟩
    rw [cs, nI_1 a]
    refine nm_e ⟨i4, ?_⟩
    rw [hfl]
    exact pk_eq (a + 1) n (fun e => hm1 k e) (fun e => hm0 k e)
  · have hn' := hn16 k
    have e2 : nI s * 16 + nI a = nI (16 * s + a) := by rw [bn_mul, nI_add, Nat.mul_comm]
    have c2 : (nI (16 * s + a)).toNatClampNeg = 16 * s + a := nI_clamp (by omega)
    rw [e2, c2]
    refine ⟨vp_in_nI (by omega) (by omega), nm_e ⟨i4, ?_⟩⟩
    rw [cs, nI_1 a]
    refine nm_e ⟨i4, ?_⟩
    rw [hfl]
    exact pk_eq (a + 1) n (fun e => hc1 k e) (fun e => hc0 k e)
theorem yk_data {post : SY → Prop} {s b o a z v : Nat} (hs : s < 4) (hyp : yp s = 8) (ho : ki s = nI o) (ho2 : o < 2 ∨ (8 ≤ o ∧ o ≤ 10)) (ha : a < 200) (ha16 : 8 ≤ o → a < 16) (hgo : go s = nI a) (hml : ml s = nI z) (hz : o < 8 → z < 200) (hv : nI b ^^^ mk (4 * s + a % 4) = nI v)
    (hc : 8 ≤ o → wY_look_312 post (nI s) fr en ma wr st lf cd ta bg kc ob ol pb pn yp ki le (upd go s (nI (a + 1))) mk (upd cb (16 * s + a) (nI v)) mb ml la ps pd pt kw kh kf kz ky th pl md cr gc lc lr wh od tg tr so bd wo be) (hm : o < 8 → wY_look_312 post (nI s) fr en ma wr st lf cd ta bg kc ob ol pb pn yp ki le (upd go s (nI (a + 1))) mk cb (upd mb (200 * s + z) (nI v)) (upd ml s (nI (z + 1))) la ps pd pt kw kh kf kz ky th pl md cr gc lc lr wh od tg tr so bd wo be) : wpY_look post (fr, en, ma, wr, st, lf, cd, ta, bg, kc, ob, ol, pb, pn, yp, ki, le, go, mk, cb, mb, ml, la, ps, pd, pt, kw, kh, kf, kz, ky, th, pl, md, cr, gc, lc, lr, wh, od, tg, tr, so, bd, wo, be) (nI s) (nI b) := by
  have cs : (nI s).toNatClampNeg = s := nI_clamp (by omega)
  have i4 : vp_in (nI s) 4 := pk_in s 4 hs
  have er : nI a - nI a / 4 * 4 = nI (a % 4) := pk_rem (a := a) (d := 4) (by omega) (by decide) (by decide)
  have e4 : 4 * nI s + nI (a % 4) = nI (4 * s + a % 4) := by rw [bn_mul2, nI_add]
  have c4 : (nI (4 * s + a % 4)).toNatClampNeg = 4 * s + a % 4 := nI_clamp (by omega)
  refine ⟨i4, ?_⟩
  rw [cs, hyp]
  refine nm_e (br_f (by decide) (br_f (by decide) (br_f (by decide) (br_f (by decide) (br_f (by decide) (br_f (by decide) (br_f (by decide) (br_f (by decide) (br_f (by decide) (br_f (by decide) (br_t rfl ⟨i4, by decide, ?_⟩)))))))))))
  rw [hgo, er, e4, c4, hv, ho]
  refine ⟨vp_in_nI (by omega) (by omega), nm_e ⟨i4, pk_le o 1 (fun k => ⟨i4, ?_⟩) (fun k => ⟨i4, ?_⟩)⟩⟩
  · have hz' := hz (by omega)
    have e2 : 200 * nI s + nI z = nI (200 * s + z) := by rw [bn_mul2, nI_add]
    have c2 : (nI (200 * s + z)).toNatClampNeg = 200 * s + z := nI_clamp (by omega)
    rw [hml, e2, c2, nI_1 z]
    refine ⟨vp_in_nI (by omega) (by omega), nm_e ⟨i4, i4, nm_e ⟨i4, ?_⟩⟩⟩
    rw [cs, hgo, nI_1 a]
    exact ⟨i4, nm_e (hm (by omega))⟩
  · have ha' := ha16 (by omega)
    have e2 : 16 * nI s + nI a = nI (16 * s + a) := by rw [bn_mul2, nI_add]
    have c2 : (nI (16 * s + a)).toNatClampNeg = 16 * s + a := nI_clamp (by omega)
    rw [e2, c2]
    refine ⟨vp_in_nI (by omega) (by omega), nm_e ⟨i4, ?_⟩⟩
    rw [cs, hgo, nI_1 a]
    exact ⟨i4, nm_e (hc (by omega))⟩
theorem lk_look4 (h : bk_S0 B A g st ol th pl md cr lr gv ib il it qi qc ta wh od tg tr so bd fr en hc hg hi kc kb kl kw kh kf kz ky mk cb mb pb pn bg be) {s b z b0 : Nat} (hs : s < 4) (hF : ∀ q, q < 4 → q ≠ s → bk_F ml xp fh fl fa mi yp ki le go la ps pd pt q) (hst : st s = 1) (hb : b < 256) (hz : z ≤ 200) (hml : ml s = nI z) (hb0 : b0 < 256) (hfh : fh s = nI b0) (hki : ki s = nI (b0 % 16)) (hla : la s = (if b0 < 128 then 0 else 1)) (hps : ps s = (if b0 / 64 % 2 = 0 then 0 else 1)) (hk : (b0 % 16 = 1 ∧ pt s = 0 ∧ mi s = (if b0 / 64 % 2 = 0 then 1 else 2)) ∨ (b0 % 16 = 0 ∧ pt s = 1 ∧ bk_Mi mi pt pd s) ∨ (8 ≤ b0 % 16 ∧ b0 % 16 ≤ 10 ∧ 128 ≤ b0 ∧ bk_Mi mi pt pd s)) (hB : B + 132 ≤ 100000000) {n a : Nat} (hxp : xp s = 4) (hyp : yp s = 8) (han : a < n) (hn : 8 ≤ b0 % 16 → n ≤ 16) (hfl : fl s = nI n) (hle : le s = nI n) (hzn : b0 % 16 < 8 → z + (n - a) ≤ 200) (hn200 : n ≤ 200) (hfa : fa s = nI a) (hgo : go s = nI a) :
    ∃ (A' : Nat → List bk_E) (g' : Nat → Nat) (px' : Int32) (st' : Nat → Int32) (lf' : Nat → Int32) (cd' : Nat → Int32) (bg' : Nat → Int32) (gv' : Nat → Int32) (ob' : Nat → Int32) (ol' : Nat → Int32) (pb' : Nat → Int32) (pn' : Nat → Int32) (xp' : Nat → Int32) (fh' : Nat → Int32) (fl' : Nat → Int32) (fa' : Nat → Int32) (mk' : Nat → Int32) (cb' : Nat → Int32) (mi' : Nat → Int32) (mb' : Nat → Int32) (ml' : Nat → Int32) (pa' : Nat → Int32) (kb' : Nat → Int32) (kl' : Nat → Int32) (kc' : Nat → Int32) (th' : Nat → Int32) (pl' : Nat → Int32) (md' : Nat → Int32) (cr' : Nat → Int32) (hc' : Nat → Int32) (hg' : Nat → Int32) (hi' : Nat → Int32) (ib' : Nat → Int32) (il' : Nat → Int32) (it' : Nat → Int32) (qi' : Nat → Int32) (qc' : Nat → Int32) (gc' : Nat → Int32) (lc' : Nat → Int32) (lr' : Nat → Int32) (co' : Nat → Int32) (fr' : Int32) (en' : Int32) (ma' : Int32) (wr' : Int32) (ta' : Nat → Int32) (yp' : Nat → Int32) (ki' : Nat → Int32) (le' : Nat → Int32) (go' : Nat → Int32) (la' : Nat → Int32) (ps' : Nat → Int32) (pd' : Nat → Int32) (pt' : Nat → Int32) (kw' : Nat → Int32) (kh' : Nat → Int32) (kf' : Nat → Int32) (kz' : Nat → Int32) (ky' : Nat → Int32) (wh' : Nat → Int32) (od' : Nat → Int32) (tg' : Nat → Int32) (tr' : Nat → Int32) (so' : Nat → Int32) (bd' : Nat → Int32) (wo' : Nat → Int32) (be' : Nat → Int32), bk_S (B + 132) A' g' st' ol' th' pl' md' cr' lr' gv' ib' il' it' qi' qc' ta' wh' od' tg' tr' so' bd' fr' en' hc' hg' hi' kc' kb' kl' kw' kh' kf' kz' ky' mk' cb' mb' pb' pn' bg' be' ml' xp' fh' fl' fa' mi' yp' ki' le' go' la' ps' pd' pt' ∧
      (∀ (post : Int32 → SX → Prop) (J39 : Int32 → Int32 → Int32 → (Nat → Int32) → (Nat → Int32) → (Nat → Int32) → (Nat → Int32) → (Nat → Int32) → (Nat → Int32) → (Nat → Int32) → (Nat → Int32) → (Nat → Int32) → (Nat → Int32) → (Nat → Int32) → (Nat → Int32) → (Nat → Int32) → (Nat → Int32) → (Nat → Int32) → (Nat → Int32) → (Nat → Int32) → (Nat → Int32) → (Nat → Int32) → (Nat → Int32) → (Nat → Int32) → (Nat → Int32) → (Nat → Int32) → (Nat → Int32) → (Nat → Int32) → (Nat → Int32) → (Nat → Int32) → (Nat → Int32) → (Nat → Int32) → (Nat → Int32) → (Nat → Int32) → (Nat → Int32) → (Nat → Int32) → (Nat → Int32) → (Nat → Int32) → (Nat → Int32) → (Nat → Int32) → (Nat → Int32) → Prop) (x2 : Int64) (x4 x5 x6 : Int32), wX_feed_135 post J39 (nI s) x2 x4 x5 x6 px' st' lf' cd' bg' gv' ob' ol' pb' pn' xp' fh' fl' fa' mk' cb' mi' mb' ml' pa' kb' kl' kc' th' pl' md' cr' hc' hg' hi' ib' il' it' qi' qc' gc' lc' lr' co' → wpX_readByte (fun r u => match u with | (px, st, lf, cd, bg, gv, ob, ol, pb, pn, xp, fh, fl, fa, mk, cb, mi, mb, ml, pa, kb, kl, kc, th, pl, md, cr, hc, hg, hi, ib, il, it, qi, qc, gc, lc, lr, co) => ((r = 16 → wpX_finishFrame (fun r u => match u with | (px, st, lf, cd, bg, gv, ob, ol, pb, pn, xp, fh, fl, fa, mk, cb, mi, mb, ml, pa, kb, kl, kc, th, pl, md, cr, hc, hg, hi, ib, il, it, qi, qc, gc, lc, lr, co) => wX_feed_93 post J39 (nI s) x2 x4 x5 x6 r px st lf cd bg gv ob ol pb pn xp fh fl fa mk cb mi mb ml pa kb kl kc th pl md cr hc hg hi ib il it qi qc gc lc lr co) (px, st, lf, cd, bg, gv, ob, ol, pb, pn, xp, fh, fl, fa, mk, cb, mi, mb, ml, pa, kb, kl, kc, th, pl, md, cr, hc, hg, hi, ib, il, it, qi, qc, gc, lc, lr, co) (nI s)) ∧ (¬ r = 16 → wX_feed_93 post J39 (nI s) x2 x4 x5 x6 r px st lf cd bg gv ob ol pb pn xp fh fl fa mk cb mi mb ml pa kb kl kc th pl md cr hc hg hi ib il it qi qc gc lc lr co))) (px, st, lf, cd, bg, gv, ob, ol, pb, pn, xp, fh, fl, fa, mk, cb, mi, mb, ml, pa, kb, kl, kc, th, pl, md, cr, hc, hg, hi, ib, il, it, qi, qc, gc, lc, lr, co) (nI s) (nI b)) ∧
      (∀ (post : SY → Prop), post (fr', en', ma', wr', st', lf', cd', ta', bg', kc', ob', ol', pb', pn', yp', ki', le', go', mk', cb', mb', ml', la', ps', pd', pt', kw', kh', kf', kz', ky', th', pl', md', cr', gc', lc', lr', wh', od', tg', tr', so', bd', wo', be') → wpY_look post (fr, en, ma, wr, st, lf, cd, ta, bg, kc, ob, ol, pb, pn, yp, ki, le, go, mk, cb, mb, ml, la, ps, pd, pt, kw, kh, kf, kz, ky, th, pl, md, cr, gc, lc, lr, wh, od, tg, tr, so, bd, wo, be) (nI s) (nI b)) := by
  have cs : (nI s).toNatClampNeg = s := nI_clamp (by omega)
  have i4 : vp_in (nI s) 4 := pk_in s 4 hs
  have ho2 : b0 % 16 < 2 ∨ (8 ≤ b0 % 16 ∧ b0 % 16 ≤ 10) := by
    rcases hk with k | k | k <;> omega
  obtain ⟨w, hw, ew⟩ := h.2.2.2.1.1 (4 * s + a % 4)
  have hv : nI b ^^^ mk (4 * s + a % 4) = nI (b ^^^ w) := by rw [ew, nx_xor]
  have hv2 : b ^^^ w < 256 := bn_xor hb hw
  generalize b ^^^ w = v at hv hv2
  have xr : ∀ (post : Int32 → SX → Prop), wpX_readData (fun r u => match u with | (px, st, lf, cd, bg, gv, ob, ol, pb, pn, xp, fh, fl, fa, mk, cb, mi, mb, ml, pa, kb, kl, kc, th, pl, md, cr, hc, hg, hi, ib, il, it, qi, qc, gc, lc, lr, co) => post r (px, st, lf, cd, bg, gv, ob, ol, pb, pn, xp, fh, fl, fa, mk, cb, mi, mb, ml, pa, kb, kl, kc, th, pl, md, cr, hc, hg, hi, ib, il, it, qi, qc, gc, lc, lr, co)) (px, st, lf, cd, bg, gv, ob, ol, pb, pn, xp, fh, fl, fa, mk, cb, mi, mb, ml, pa, kb, kl, kc, th, pl, md, cr, hc, hg, hi, ib, il, it, qi, qc, gc, lc, lr, co) (nI s) (nI b) → wpX_readByte post (px, st, lf, cd, bg, gv, ob, ol, pb, pn, xp, fh, fl, fa, mk, cb, mi, mb, ml, pa, kb, kl, kc, th, pl, md, cr, hc, hg, hi, ib, il, it, qi, qc, gc, lc, lr, co) (nI s) (nI b) := by
    intro post hp
    refine ⟨i4, ?_⟩
    rw [cs, hxp]
    exact nm_e (br_f (by decide) (br_t (by decide) hp))
  by_cases ctl : 8 ≤ b0 % 16
  · have hn16 := hn ctl
    have hS0 : bk_S0 B A g st ol th pl md cr lr gv ib il it qi qc ta wh od tg tr so bd fr en hc hg hi kc kb kl kw kh kf kz ky mk (upd cb (16 * s + a) (nI v)) mb pb pn bg be := ⟨h.1, h.2.1, h.2.2.1, ⟨h.2.2.2.1.1, bk_Byu h.2.2.2.1.2.1 hv2, h.2.2.2.1.2.2⟩, h.2.2.2.2⟩
    have hF' : ∀ q, q < 4 → q ≠ s → bk_F ml xp fh fl (upd fa s (nI (a + 1))) mi yp ki le (upd go s (nI (a + 1))) la ps pd pt q := fun q hq e => bk_F_of (hF q hq e) rfl rfl rfl rfl (pk_un e) rfl rfl rfl rfl (pk_un e) rfl rfl rfl rfl
    by_cases last : a + 1 = n
    · obtain ⟨A', g', px', st', lf', cd', bg', gv', ob', ol', pb', pn', xp', fh', fl', fa', mk', cb', mi', mb', ml', pa', kb', kl', kc', th', pl', md', cr', hc', hg', hi', ib', il', it', qi', qc', gc', lc', lr', co', fr', en', ma', wr', ta', yp', ki', le', go', la', ps', pd', pt', kw', kh', kf', kz', ky', wh', od', tg', tr', so', bd', wo', be', hS, x1, y1⟩ := lk_done (px := px) (st := st) (lf := lf) (cd := cd) (bg := bg) (gv := gv) (ob := ob) (ol := ol) (pb := pb) (pn := pn) (xp := xp) (fh := fh) (fl := fl) (mk := mk) (mi := mi) (mb := mb) (ml := ml) (pa := pa) (kb := kb) (kl := kl) (kc := kc) (th := th) (pl := pl) (md := md) (cr := cr) (hc := hc) (hg := hg) (hi := hi) (ib := ib) (il := il) (it := it) (qi := qi) (qc := qc) (gc := gc) (lc := lc) (lr := lr) (co := co) (fr := fr) (en := en) (ma := ma) (wr := wr) (ta := ta) (yp := yp) (ki := ki) (le := le) (la := la) (ps := ps) (pd := pd) (pt := pt) (kw := kw) (kh := kh) (kf := kf) (kz := kz) (ky := ky) (wh := wh) (od := od) (tg := tg) (tr := tr) (so := so) (bd := bd) (wo := wo) (be := be) (cb := upd cb (16 * s + a) (nI v)) (fa := upd fa s (nI (a + 1))) (go := upd go s (nI (a + 1))) hS0 hs hF' hst hz hml hb0 hfh hki hla hps hk hn hfl hle hB
      refine ⟨A', g', px', st', lf', cd', bg', gv', ob', ol', pb', pn', xp', fh', fl', fa', mk', cb', mi', mb', ml', pa', kb', kl', kc', th', pl', md', cr', hc', hg', hi', ib', il', it', qi', qc', gc', lc', lr', co', fr', en', ma', wr', ta', yp', ki', le', go', la', ps', pd', pt', kw', kh', kf', kz', ky', wh', od', tg', tr', so', bd', wo', be', hS, ?_, ?_⟩
      · intro post J39 x2 x4 x5 x6 hp
        exact xr _ (xk_readData hs hb0 hfh han hn200 hn hfa hfl hml (fun q => by omega) hv (fun _ _ => br_t rfl (x1 post J39 x2 x4 x5 x6 hp)) (fun _ q => absurd last q) (fun q => by omega) (fun q => by omega))
      · intro post hp
        exact yk_data hs hyp hki ho2 (by omega) (fun _ => by omega) hgo hml (fun q => by omega) hv (fun _ => yk_312d hs hyp (by rw [pk_us, hle, last]) (y1 _ hp)) (fun q => by omega)
    · refine ⟨A, g, px, st, lf, cd, bg, gv, ob, ol, pb, pn, xp, fh, fl, upd fa s (nI (a + 1)), mk, upd cb (16 * s + a) (nI v), mi, mb, ml, pa, kb, kl, kc, th, pl, md, cr, hc, hg, hi, ib, il, it, qi, qc, gc, lc, lr, co, fr, en, ma, wr, ta, yp, ki, le, upd go s (nI (a + 1)), la, ps, pd, pt, kw, kh, kf, kz, ky, wh, od, tg, tr, so, bd, wo, be, ⟨⟨dk_mono hS0.1 (by omega), hS0.2⟩, fun q hq => ?_⟩, ?_, ?_⟩
      · by_cases e : q = s
        · subst e
          exact ⟨z, hz, hml, Or.inr ⟨b0, b0 % 16, hb0, rfl, hfh, hki, hla, hps, hk, Or.inr (Or.inr ⟨n, hn200, hn, hfl, hle, Or.inr ⟨hxp, hyp, a + 1, by omega, pk_us, pk_us, fun q => by omega⟩⟩)⟩⟩
        · exact hF' q hq e
      · intro post J39 x2 x4 x5 x6 hp
        exact xr _ (xk_readData hs hb0 hfh han hn200 hn hfa hfl hml (fun q => by omega) hv (fun _ q => absurd q last) (fun _ _ => br_f (by decide) (br_f (by decide) (br_f (by decide) (br_t rfl hp)))) (fun q => by omega) (fun q => by omega))
      · intro post hp
        exact yk_data hs hyp hki ho2 (by omega) (fun _ => by omega) hgo hml (fun q => by omega) hv (fun _ => yk_312 hs (Or.inr (by rw [pk_us, hle]; exact fun q => last ((nI_eq (by omega) (by omega)).mp q))) hp) (fun q => by omega)
  · have hzn' := hzn (by omega)
    have hS0 : bk_S0 B A g st ol th pl md cr lr gv ib il it qi qc ta wh od tg tr so bd fr en hc hg hi kc kb kl kw kh kf kz ky mk cb (upd mb (200 * s + z) (nI v)) pb pn bg be := ⟨h.1, h.2.1, h.2.2.1, ⟨h.2.2.2.1.1, h.2.2.2.1.2.1, bk_Byu h.2.2.2.1.2.2.1 hv2, h.2.2.2.1.2.2.2⟩, h.2.2.2.2⟩
    have hF' : ∀ q, q < 4 → q ≠ s → bk_F (upd ml s (nI (z + 1))) xp fh fl (upd fa s (nI (a + 1))) mi yp ki le (upd go s (nI (a + 1))) la ps pd pt q := fun q hq e => bk_F_of (hF q hq e) (pk_un e) rfl rfl rfl (pk_un e) rfl rfl rfl rfl (pk_un e) rfl rfl rfl rfl
    by_cases last : a + 1 = n
    · obtain ⟨A', g', px', st', lf', cd', bg', gv', ob', ol', pb', pn', xp', fh', fl', fa', mk', cb', mi', mb', ml', pa', kb', kl', kc', th', pl', md', cr', hc', hg', hi', ib', il', it', qi', qc', gc', lc', lr', co', fr', en', ma', wr', ta', yp', ki', le', go', la', ps', pd', pt', kw', kh', kf', kz', ky', wh', od', tg', tr', so', bd', wo', be', hS, x1, y1⟩ := lk_done (px := px) (st := st) (lf := lf) (cd := cd) (bg := bg) (gv := gv) (ob := ob) (ol := ol) (pb := pb) (pn := pn) (xp := xp) (fh := fh) (fl := fl) (mk := mk) (cb := cb) (mi := mi) (pa := pa) (kb := kb) (kl := kl) (kc := kc) (th := th) (pl := pl) (md := md) (cr := cr) (hc := hc) (hg := hg) (hi := hi) (ib := ib) (il := il) (it := it) (qi := qi) (qc := qc) (gc := gc) (lc := lc) (lr := lr) (co := co) (fr := fr) (en := en) (ma := ma) (wr := wr) (ta := ta) (yp := yp) (ki := ki) (le := le) (la := la) (ps := ps) (pd := pd) (pt := pt) (kw := kw) (kh := kh) (kf := kf) (kz := kz) (ky := ky) (wh := wh) (od := od) (tg := tg) (tr := tr) (so := so) (bd := bd) (wo := wo) (be := be) (mb := upd mb (200 * s + z) (nI v)) (ml := upd ml s (nI (z + 1))) (fa := upd fa s (nI (a + 1))) (go := upd go s (nI (a + 1))) (z := z + 1) hS0 hs hF' hst (by omega) pk_us hb0 hfh hki hla hps hk hn hfl hle hB
      refine ⟨A', g', px', st', lf', cd', bg', gv', ob', ol', pb', pn', xp', fh', fl', fa', mk', cb', mi', mb', ml', pa', kb', kl', kc', th', pl', md', cr', hc', hg', hi', ib', il', it', qi', qc', gc', lc', lr', co', fr', en', ma', wr', ta', yp', ki', le', go', la', ps', pd', pt', kw', kh', kf', kz', ky', wh', od', tg', tr', so', bd', wo', be', hS, ?_, ?_⟩
      · intro post J39 x2 x4 x5 x6 hp
        exact xr _ (xk_readData hs hb0 hfh han hn200 hn hfa hfl hml (fun q => by omega) hv (fun q => absurd q ctl) (fun q => absurd q ctl) (fun _ _ => br_t rfl (x1 post J39 x2 x4 x5 x6 hp)) (fun _ q => absurd last q))
      · intro post hp
        exact yk_data hs hyp hki ho2 (by omega) (fun q => absurd q ctl) hgo hml (fun q => by omega) hv (fun q => absurd q ctl) (fun _ => yk_312d hs hyp (by rw [pk_us, hle, last]) (y1 _ hp))
    · refine ⟨A, g, px, st, lf, cd, bg, gv, ob, ol, pb, pn, xp, fh, fl, upd fa s (nI (a + 1)), mk, cb, mi, upd mb (200 * s + z) (nI v), upd ml s (nI (z + 1)), pa, kb, kl, kc, th, pl, md, cr, hc, hg, hi, ib, il, it, qi, qc, gc, lc, lr, co, fr, en, ma, wr, ta, yp, ki, le, upd go s (nI (a + 1)), la, ps, pd, pt, kw, kh, kf, kz, ky, wh, od, tg, tr, so, bd, wo, be, ⟨⟨dk_mono hS0.1 (by omega), hS0.2⟩, fun q hq => ?_⟩, ?_, ?_⟩
      · by_cases e : q = s
        · subst e
          exact ⟨z + 1, by omega, pk_us, Or.inr ⟨b0, b0 % 16, hb0, rfl, hfh, hki, hla, hps, hk, Or.inr (Or.inr ⟨n, hn200, hn, hfl, hle, Or.inr ⟨hxp, hyp, a + 1, by omega, pk_us, pk_us, fun q => by omega⟩⟩)⟩⟩
        · exact hF' q hq e
      · intro post J39 x2 x4 x5 x6 hp
        exact xr _ (xk_readData hs hb0 hfh han hn200 hn hfa hfl hml (fun q => by omega) hv (fun q => absurd q ctl) (fun q => absurd q ctl) (fun _ q => absurd q last) (fun _ _ => br_f (by decide) (br_f (by decide) (br_f (by decide) (br_t rfl hp)))))
      · intro post hp
        exact yk_data hs hyp hki ho2 (by omega) (fun q => absurd q ctl) hgo hml (fun q => by omega) hv (fun q => absurd q ctl) (fun _ => yk_312 hs (Or.inr (by rw [pk_us, hle]; exact fun q => last ((nI_eq (by omega) (by omega)).mp q))) hp)
end LK4
