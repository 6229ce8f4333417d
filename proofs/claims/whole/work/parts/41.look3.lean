section LK2
variable {B : Nat} {A : Nat → List bk_E} {g : Nat → Nat} {st lf cd bg gv ob ol pb pn xp fh fl fa mk cb mi mb ml pa kb kl kc th pl md cr hc hg hi ib il it qi qc gc lc lr co ta yp ki le go la ps pd pt kw kh kf kz ky wh od tg tr so bd wo be : Nat → Int32} {px fr en ma wr : Int32}
theorem lk_look2 (h : bk_S0 B A g st ol th pl md cr lr gv ib il it qi qc ta wh od tg tr so bd fr en hc hg hi kc kb kl kw kh kf kz ky mk cb mb pb pn bg be) {s b z b0 : Nat} (hs : s < 4) (hF : ∀ q, q < 4 → q ≠ s → bk_F ml xp fh fl fa mi yp ki le go la ps pd pt q) (hst : st s = 1) (hb : b < 256) (hz : z ≤ 200) (hml : ml s = nI z) (hb0 : b0 < 256) (hfh : fh s = nI b0) (hki : ki s = nI (b0 % 16)) (hla : la s = (if b0 < 128 then 0 else 1)) (hps : ps s = (if b0 / 64 % 2 = 0 then 0 else 1)) (hk : (b0 % 16 = 1 ∧ pt s = 0 ∧ mi s = (if b0 / 64 % 2 = 0 then 1 else 2)) ∨ (b0 % 16 = 0 ∧ pt s = 1 ∧ bk_Mi mi pt pd s) ∨ (8 ≤ b0 % 16 ∧ b0 % 16 ≤ 10 ∧ 128 ≤ b0 ∧ bk_Mi mi pt pd s)) (hB : B + 132 ≤ 100000000) (hxp : xp s = 2) (ho8 : b0 % 16 < 8) (hp2 : (fa s = 0 ∧ fl s = 0 ∧ yp s = 2) ∨ (fa s = 1 ∧ yp s = 3 ∧ ∃ h, h < 256 ∧ fl s = nI h ∧ le s = nI (256 * h))) :
    ∃ (A' : Nat → List bk_E) (g' : Nat → Nat) (px' : Int32) (st' : Nat → Int32) (lf' : Nat → Int32) (cd' : Nat → Int32) (bg' : Nat → Int32) (gv' : Nat → Int32) (ob' : Nat → Int32) (ol' : Nat → Int32) (pb' : Nat → Int32) (pn' : Nat → Int32) (xp' : Nat → Int32) (fh' : Nat → Int32) (fl' : Nat → Int32) (fa' : Nat → Int32) (mk' : Nat → Int32) (cb' : Nat → Int32) (mi' : Nat → Int32) (mb' : Nat → Int32) (ml' : Nat → Int32) (pa' : Nat → Int32) (kb' : Nat → Int32) (kl' : Nat → Int32) (kc' : Nat → Int32) (th' : Nat → Int32) (pl' : Nat → Int32) (md' : Nat → Int32) (cr' : Nat → Int32) (hc' : Nat → Int32) (hg' : Nat → Int32) (hi' : Nat → Int32) (ib' : Nat → Int32) (il' : Nat → Int32) (it' : Nat → Int32) (qi' : Nat → Int32) (qc' : Nat → Int32) (gc' : Nat → Int32) (lc' : Nat → Int32) (lr' : Nat → Int32) (co' : Nat → Int32) (fr' : Int32) (en' : Int32) (ma' : Int32) (wr' : Int32) (ta' : Nat → Int32) (yp' : Nat → Int32) (ki' : Nat → Int32) (le' : Nat → Int32) (go' : Nat → Int32) (la' : Nat → Int32) (ps' : Nat → Int32) (pd' : Nat → Int32) (pt' : Nat → Int32) (kw' : Nat → Int32) (kh' : Nat → Int32) (kf' : Nat → Int32) (kz' : Nat → Int32) (ky' : Nat → Int32) (wh' : Nat → Int32) (od' : Nat → Int32) (tg' : Nat → Int32) (tr' : Nat → Int32) (so' : Nat → Int32) (bd' : Nat → Int32) (wo' : Nat → Int32) (be' : Nat → Int32), bk_S (B + 132) A' g' st' ol' th' pl' md' cr' lr' gv' ib' il' it' qi' qc' ta' wh' od' tg' tr' so' bd' fr' en' hc' hg' hi' kc' kb' kl' kw' kh' kf' kz' ky' mk' cb' mb' pb' pn' bg' be' ml' xp' fh' fl' fa' mi' yp' ki' le' go' la' ps' pd' pt' ∧
      (∀ (post : Int32 → SX → Prop) (J39 : Int32 → Int32 → Int32 → (Nat → Int32) → (Nat → Int32) → (Nat → Int32) → (Nat → Int32) → (Nat → Int32) → (Nat → Int32) → (Nat → Int32) → (Nat → Int32) → (Nat → Int32) → (Nat → Int32) → (Nat → Int32) → (Nat → Int32) → (Nat → Int32) → (Nat → Int32) → (Nat → Int32) → (Nat → Int32) → (Nat → Int32) → (Nat → Int32) → (Nat → Int32) → (Nat → Int32) → (Nat → Int32) → (Nat → Int32) → (Nat → Int32) → (Nat → Int32) → (Nat → Int32) → (Nat → Int32) → (Nat → Int32) → (Nat → Int32) → (Nat → Int32) → (Nat → Int32) → (Nat → Int32) → (Nat → Int32) → (Nat → Int32) → (Nat → Int32) → (Nat → Int32) → (Nat → Int32) → (Nat → Int32) → (Nat → Int32) → Prop) (x2 : Int64) (x4 x5 x6 : Int32), wX_feed_135 post J39 (nI s) x2 x4 x5 x6 px' st' lf' cd' bg' gv' ob' ol' pb' pn' xp' fh' fl' fa' mk' cb' mi' mb' ml' pa' kb' kl' kc' th' pl' md' cr' hc' hg' hi' ib' il' it' qi' qc' gc' lc' lr' co' → wpX_readByte (fun r u => match u with | (px, st, lf, cd, bg, gv, ob, ol, pb, pn, xp, fh, fl, fa, mk, cb, mi, mb, ml, pa, kb, kl, kc, th, pl, md, cr, hc, hg, hi, ib, il, it, qi, qc, gc, lc, lr, co) => ((r = 16 → wpX_finishFrame (fun r u => match u with | (px, st, lf, cd, bg, gv, ob, ol, pb, pn, xp, fh, fl, fa, mk, cb, mi, mb, ml, pa, kb, kl, kc, th, pl, md, cr, hc, hg, hi, ib, il, it, qi, qc, gc, lc, lr, co) => wX_feed_93 post J39 (nI s) x2 x4 x5 x6 r px st lf cd bg gv ob ol pb pn xp fh fl fa mk cb mi mb ml pa kb kl kc th pl md cr hc hg hi ib il it qi qc gc lc lr co) (px, st, lf, cd, bg, gv, ob, ol, pb, pn, xp, fh, fl, fa, mk, cb, mi, mb, ml, pa, kb, kl, kc, th, pl, md, cr, hc, hg, hi, ib, il, it, qi, qc, gc, lc, lr, co) (nI s)) ∧ (¬ r = 16 → wX_feed_93 post J39 (nI s) x2 x4 x5 x6 r px st lf cd bg gv ob ol pb pn xp fh fl fa mk cb mi mb ml pa kb kl kc th pl md cr hc hg hi ib il it qi qc gc lc lr co))) (px, st, lf, cd, bg, gv, ob, ol, pb, pn, xp, fh, fl, fa, mk, cb, mi, mb, ml, pa, kb, kl, kc, th, pl, md, cr, hc, hg, hi, ib, il, it, qi, qc, gc, lc, lr, co) (nI s) (nI b)) ∧
      (∀ (post : SY → Prop), post (fr', en', ma', wr', st', lf', cd', ta', bg', kc', ob', ol', pb', pn', yp', ki', le', go', mk', cb', mb', ml', la', ps', pd', pt', kw', kh', kf', kz', ky', th', pl', md', cr', gc', lc', lr', wh', od', tg', tr', so', bd', wo', be') → wpY_look post (fr, en, ma, wr, st, lf, cd, ta, bg, kc, ob, ol, pb, pn, yp, ki, le, go, mk, cb, mb, ml, la, ps, pd, pt, kw, kh, kf, kz, ky, th, pl, md, cr, gc, lc, lr, wh, od, tg, tr, so, bd, wo, be) (nI s) (nI b)) := by
  have cs : (nI s).toNatClampNeg = s := nI_clamp (by omega)
  have i4 : vp_in (nI s) 4 := pk_in s 4 hs
  have ho2 : b0 % 16 < 2 ∨ (8 ≤ b0 % 16 ∧ b0 % 16 ≤ 10) := by
    rcases hk with k | k | k <;> omega
  rcases hp2 with ⟨p1, p2, p3⟩ | ⟨p1, p3, hh, hh2, p2, p4⟩
  · obtain ⟨h1, h2⟩ := h
    have ev : 256 * (0 : Int32) + nI b = nI b := by
      have : (256 : Int32) * 0 = nI 0 := by decide
      rw [this, nI_add, Nat.zero_add]
    refine ⟨A, g, px, st, lf, cd, bg, gv, ob, ol, pb, pn, xp, fh, upd fl s (nI b), upd fa s 1, mk, cb, mi, mb, ml, pa, kb, kl, kc, th, pl, md, cr, hc, hg, hi, ib, il, it, qi, qc, gc, lc, lr, co, fr, en, ma, wr, ta, upd yp s 3, ki, upd le s (nI (256 * b)), go, la, ps, pd, pt, kw, kh, kf, kz, ky, wh, od, tg, tr, so, bd, wo, be, ⟨⟨dk_mono h1 (by omega), h2⟩, fun q hq => ?_⟩, ?_, ?_⟩
    · by_cases e : q = s
      · subst e
        exact ⟨z, hz, hml, Or.inr ⟨b0, b0 % 16, hb0, rfl, hfh, hki, hla, hps, hk, Or.inr (Or.inl ⟨hxp, ho8, Or.inr ⟨pk_us, pk_us, b, hb, pk_us, pk_us⟩⟩)⟩⟩
      · exact bk_F_of (hF q hq e) rfl rfl rfl (pk_un e) (pk_un e) rfl (pk_un e) rfl (pk_un e) rfl rfl rfl rfl rfl
    · intro post J39 x2 x4 x5 x6 hp
      refine ⟨i4, ?_⟩
      rw [cs, hxp]
      refine nm_e (br_f (by decide) (br_f (by decide) (br_f (by decide) (br_f (by decide) (br_t rfl ?_)))))
      refine ⟨i4, ?_⟩
      rw [cs, p1, p2, ev, show (0 : Int32) + 1 = 1 by decide]
      refine ⟨i4, nm_e ⟨i4, i4, nm_e ⟨i4, ?_⟩⟩⟩
      rw [pk_us]
      exact br_f (by decide) (br_f (by decide) (br_f (by decide) (br_f (by decide) (br_t rfl hp))))
    · intro post hp
      have e256 : 256 * nI b = nI (256 * b) := bn_mul2 b 256
      refine ⟨i4, ?_⟩
      rw [cs, p3]
      refine nm_e (br_f (by decide) (br_f (by decide) (br_f (by decide) (br_f (by decide) (br_t rfl ⟨i4, ?_⟩)))))
      rw [e256]
      exact nm_e ⟨i4, nm_e (yk_312 hs (Or.inl (by rw [pk_us]; decide)) hp)⟩
  · have ev : 256 * nI hh + nI b = nI (256 * hh + b) := by rw [bn_mul2, nI_add]
    have ea : (1 : Int32) + 1 = 2 := by decide
    -- X's way to the judgement
    have xr : ∀ (post : Int32 → SX → Prop), (256 * hh + b < 126 → post 2 (px, st, lf, cd, bg, gv, ob, ol, pb, pn, xp, fh, upd fl s (nI (256 * hh + b)), upd fa s 2, mk, cb, mi, mb, ml, pa, kb, kl, kc, th, pl, md, cr, hc, hg, hi, ib, il, it, qi, qc, gc, lc, lr, co)) → (126 ≤ 256 * hh + b → wpX_judgeLength (fun r u => match u with | (px, st, lf, cd, bg, gv, ob, ol, pb, pn, xp, fh, fl, fa, mk, cb, mi, mb, ml, pa, kb, kl, kc, th, pl, md, cr, hc, hg, hi, ib, il, it, qi, qc, gc, lc, lr, co) => post r (px, st, lf, cd, bg, gv, ob, ol, pb, pn, xp, fh, fl, fa, mk, cb, mi, mb, ml, pa, kb, kl, kc, th, pl, md, cr, hc, hg, hi, ib, il, it, qi, qc, gc, lc, lr, co)) (px, st, lf, cd, bg, gv, ob, ol, pb, pn, xp, fh, upd fl s (nI (256 * hh + b)), upd fa s 2, mk, cb, mi, mb, ml, pa, kb, kl, kc, th, pl, md, cr, hc, hg, hi, ib, il, it, qi, qc, gc, lc, lr, co) (nI s)) → wpX_readByte post (px, st, lf, cd, bg, gv, ob, ol, pb, pn, xp, fh, fl, fa, mk, cb, mi, mb, ml, pa, kb, kl, kc, th, pl, md, cr, hc, hg, hi, ib, il, it, qi, qc, gc, lc, lr, co) (nI s) (nI b) := by
      intro post g0 g1
      refine ⟨i4, ?_⟩
      rw [cs, hxp]
      refine nm_e (br_f (by decide) (br_f (by decide) (br_f (by decide) (br_f (by decide) (br_t rfl ?_)))))
      refine ⟨i4, ?_⟩
      rw [cs, p1, p2, ev, ea]
      refine ⟨i4, nm_e ⟨i4, i4, nm_e ⟨i4, ?_⟩⟩⟩
      rw [pk_us, pk_us]
      refine br_t (by decide) ⟨i4, pk_le 126 (256 * hh + b) g1 g0⟩
    have yr : ∀ (post : SY → Prop), (256 * hh + b < 126 → wpY_faults (fun u => match u with | (fr, en, ma, wr, st, lf, cd, ta, bg, kc, ob, ol, pb, pn, yp, ki, le, go, mk, cb, mb, ml, la, ps, pd, pt, kw, kh, kf, kz, ky, th, pl, md, cr, gc, lc, lr, wh, od, tg, tr, so, bd, wo, be) => wY_look_312 post (nI s) fr en ma wr st lf cd ta bg kc ob ol pb pn yp ki le go mk cb mb ml la ps pd pt kw kh kf kz ky th pl md cr gc lc lr wh od tg tr so bd wo be) (fr, en, ma, wr, st, lf, cd, ta, bg, kc, ob, ol, pb, pn, yp, ki, le, go, mk, cb, mb, ml, la, ps, pd, pt, kw, kh, kf, kz, ky, th, pl, md, cr, gc, lc, lr, wh, od, tg, tr, so, bd, wo, be) (nI s) 2) → (126 ≤ 256 * hh + b → wpY_begin (fun u => match u with | (fr, en, ma, wr, st, lf, cd, ta, bg, kc, ob, ol, pb, pn, yp, ki, le, go, mk, cb, mb, ml, la, ps, pd, pt, kw, kh, kf, kz, ky, th, pl, md, cr, gc, lc, lr, wh, od, tg, tr, so, bd, wo, be) => wY_look_312 post (nI s) fr en ma wr st lf cd ta bg kc ob ol pb pn yp ki le go mk cb mb ml la ps pd pt kw kh kf kz ky th pl md cr gc lc lr wh od tg tr so bd wo be) (fr, en, ma, wr, st, lf, cd, ta, bg, kc, ob, ol, pb, pn, yp, ki, le, go, mk, cb, mb, ml, la, ps, pd, pt, kw, kh, kf, kz, ky, th, pl, md, cr, gc, lc, lr, wh, od, tg, tr, so, bd, wo, be) (nI s) (nI (256 * hh + b))) → wpY_look post (fr, en, ma, wr, st, lf, cd, ta, bg, kc, ob, ol, pb, pn, yp, ki, le, go, mk, cb, mb, ml, la, ps, pd, pt, kw, kh, kf, kz, ky, th, pl, md, cr, gc, lc, lr, wh, od, tg, tr, so, bd, wo, be) (nI s) (nI b) := by
      intro post g0 g1
      refine ⟨i4, ?_⟩
      rw [cs, p3]
      refine nm_e (br_f (by decide) (br_f (by decide) (br_f (by decide) (br_f (by decide) (br_f (by decide) (br_t rfl ⟨i4, ?_⟩))))))
      rw [p4]
      exact nm_r (nI_add _ _) (pk_le 126 (256 * hh + b) g1 g0)
    have hF' : ∀ q, q < 4 → q ≠ s → bk_F ml xp fh (upd fl s (nI (256 * hh + b))) (upd fa s 2) mi yp ki le go la ps pd pt q := fun q hq e => bk_F_of (hF q hq e) rfl rfl rfl (pk_un e) (pk_un e) rfl rfl rfl rfl rfl rfl rfl rfl rfl
    by_cases small : 256 * hh + b < 126
    · obtain ⟨d, hS, xf, yf⟩ := lk_S_fault (st := st) (bg := bg) (gv := gv) (ob := ob) (ol := ol) (pb := pb) (pn := pn) (xp := xp) (fh := fh) (mk := mk) (cb := cb) (mi := mi) (mb := mb) (ml := ml) (kb := kb) (kl := kl) (kc := kc) (th := th) (pl := pl) (md := md) (cr := cr) (hc := hc) (hg := hg) (hi := hi) (ib := ib) (il := il) (it := it) (qi := qi) (qc := qc) (gc := gc) (lc := lc) (lr := lr) (fr := fr) (en := en) (ta := ta) (yp := yp) (ki := ki) (le := le) (go := go) (la := la) (ps := ps) (pd := pd) (pt := pt) (kw := kw) (kh := kh) (kf := kf) (kz := kz) (ky := ky) (wh := wh) (od := od) (tg := tg) (tr := tr) (so := so) (bd := bd) (be := be) (fa := upd fa s 2) (fl := upd fl s (nI (256 * hh + b))) h hs hF' (by omega) 2
      refine ⟨zz_A d, zz_g d, px, upd st s (nI 2), upd lf s 2, cd, upd bg s 0, zz_gv d, zz_ob d, zz_ol d, pb, pn, upd xp s 0, fh, upd fl s (nI (256 * hh + b)), upd fa s 2, mk, cb, upd mi s 0, mb, upd ml s 0, pa, kb, kl, upd kc s 0, zz_th d, pl, md, cr, zz_hc d, zz_hg d, zz_hi d, zz_ib d, zz_il d, zz_it d, zz_qi d, zz_qc d, zz_gc d, zz_lc d, zz_lr d, co, zz_fr d, zz_en d, ma, wr, zz_ta d, upd yp s 0, ki, le, go, la, ps, pd, upd pt s 0, kw, kh, kf, kz, ky, zz_wh d, zz_od d, zz_tg d, zz_tr d, zz_so d, zz_bd d, upd wo 0 2, be, bk_S_mono hS (by omega), ?_, ?_⟩
      · intro post J39 x2 x4 x5 x6 hp
        exact xr _ (fun _ => br_f (by decide) (br_f (by decide) (br_f (by decide) (br_f (by decide) (xf _ hp))))) (fun q => by omega)
      · intro post hp
        exact yr _ (fun _ => yf _ (yk_312 hs (Or.inl (by rw [pk_us]; decide)) hp)) (fun q => by omega)
    · by_cases big : 200 < z + (256 * hh + b)
      · obtain ⟨d, hS, xf, yf⟩ := lk_S_fault (st := st) (bg := bg) (gv := gv) (ob := ob) (ol := ol) (pb := pb) (pn := pn) (xp := xp) (fh := fh) (mk := mk) (cb := cb) (mi := mi) (mb := mb) (ml := ml) (kb := kb) (kl := kl) (kc := kc) (th := th) (pl := pl) (md := md) (cr := cr) (hc := hc) (hg := hg) (hi := hi) (ib := ib) (il := il) (it := it) (qi := qi) (qc := qc) (gc := gc) (lc := lc) (lr := lr) (fr := fr) (en := en) (ta := ta) (yp := yp) (ki := ki) (le := le) (go := go) (la := la) (ps := ps) (pd := pd) (pt := pt) (kw := kw) (kh := kh) (kf := kf) (kz := kz) (ky := ky) (wh := wh) (od := od) (tg := tg) (tr := tr) (so := so) (bd := bd) (be := be) (fa := upd fa s 2) (fl := upd fl s (nI (256 * hh + b))) h hs hF' (by omega) 9
        refine ⟨zz_A d, zz_g d, px, upd st s (nI 2), upd lf s 9, cd, upd bg s 0, zz_gv d, zz_ob d, zz_ol d, pb, pn, upd xp s 0, fh, upd fl s (nI (256 * hh + b)), upd fa s 2, mk, cb, upd mi s 0, mb, upd ml s 0, pa, kb, kl, upd kc s 0, zz_th d, pl, md, cr, zz_hc d, zz_hg d, zz_hi d, zz_ib d, zz_il d, zz_it d, zz_qi d, zz_qc d, zz_gc d, zz_lc d, zz_lr d, co, zz_fr d, zz_en d, ma, wr, zz_ta d, upd yp s 0, ki, le, go, la, ps, pd, upd pt s 0, kw, kh, kf, kz, ky, zz_wh d, zz_od d, zz_tg d, zz_tr d, zz_so d, zz_bd d, upd wo 0 9, be, bk_S_mono hS (by omega), ?_, ?_⟩
        · intro post J39 x2 x4 x5 x6 hp
          exact xr _ (fun q => absurd q small) (fun _ => xk_judge (b := b0) (n := 256 * hh + b) hs hb0 hfh pk_us (by omega) hml hz (fun _ _ => br_f (by decide) (br_f (by decide) (br_f (by decide) (br_f (by decide) (xf _ hp))))) (fun q => by omega))
        · intro post hp
          exact yr _ (fun q => absurd q small) (fun _ => yk_begin hs hki ho2 (by omega) hml hz (fun _ _ => yf _ (yk_312 hs (Or.inl (by rw [pk_us]; decide)) hp)) (fun q => by omega))
      · obtain ⟨h1, h2⟩ := h
        refine ⟨A, g, px, st, lf, cd, bg, gv, ob, ol, pb, pn, upd xp s 3, fh, upd fl s (nI (256 * hh + b)), upd fa s 0, mk, cb, mi, mb, ml, pa, kb, kl, kc, th, pl, md, cr, hc, hg, hi, ib, il, it, qi, qc, gc, lc, lr, co, fr, en, ma, wr, ta, upd yp s 4, ki, upd le s (nI (256 * hh + b)), upd go s 0, la, ps, pd, pt, kw, kh, kf, kz, ky, wh, od, tg, tr, so, bd, wo, be, ⟨⟨dk_mono h1 (by omega), h2⟩, fun q hq => ?_⟩, ?_, ?_⟩
        · by_cases e : q = s
          · subst e
            exact ⟨z, hz, hml, Or.inr ⟨b0, b0 % 16, hb0, rfl, hfh, hki, hla, hps, hk, Or.inr (Or.inr ⟨256 * hh + b, by omega, by omega, pk_us, pk_us, Or.inl ⟨pk_us, by omega, 0, by omega, pk_us, pk_us, pk_us⟩⟩)⟩⟩
          · exact bk_F_of (hF q hq e) rfl (pk_un e) rfl (pk_un e) (pk_un e) rfl (pk_un e) rfl (pk_un e) (pk_un e) rfl rfl rfl rfl
        · intro post J39 x2 x4 x5 x6 hp
          refine xr _ (fun q => absurd q small) (fun _ => xk_judge (b := b0) (n := 256 * hh + b) hs hb0 hfh pk_us (by omega) hml hz (fun _ q => absurd q big) (fun q => ?_))
          rw [bk_uu]
          exact br_f (by decide) (br_f (by decide) (br_f (by decide) (br_t rfl hp)))
        · intro post hp
          exact yr _ (fun q => absurd q small) (fun _ => yk_begin hs hki ho2 (by omega) hml hz (fun _ q => absurd q big) (fun q => yk_312 hs (Or.inl (by rw [pk_us]; decide)) hp))
theorem lk_look3 (h : bk_S0 B A g st ol th pl md cr lr gv ib il it qi qc ta wh od tg tr so bd fr en hc hg hi kc kb kl kw kh kf kz ky mk cb mb pb pn bg be) {s b z b0 : Nat} (hs : s < 4) (hF : ∀ q, q < 4 → q ≠ s → bk_F ml xp fh fl fa mi yp ki le go la ps pd pt q) (hst : st s = 1) (hb : b < 256) (hz : z ≤ 200) (hml : ml s = nI z) (hb0 : b0 < 256) (hfh : fh s = nI b0) (hki : ki s = nI (b0 % 16)) (hla : la s = (if b0 < 128 then 0 else 1)) (hps : ps s = (if b0 / 64 % 2 = 0 then 0 else 1)) (hk : (b0 % 16 = 1 ∧ pt s = 0 ∧ mi s = (if b0 / 64 % 2 = 0 then 1 else 2)) ∨ (b0 % 16 = 0 ∧ pt s = 1 ∧ bk_Mi mi pt pd s) ∨ (8 ≤ b0 % 16 ∧ b0 % 16 ≤ 10 ∧ 128 ≤ b0 ∧ bk_Mi mi pt pd s)) (hB : B + 132 ≤ 100000000) {n a : Nat} (hxp : xp s = 3) (ha : a < 4) (hn : 8 ≤ b0 % 16 → n ≤ 16) (hfl : fl s = nI n) (hle : le s = nI n) (hzn : b0 % 16 < 8 → z + n ≤ 200) (hfa : fa s = nI a) (hyp : yp s = nI (4 + a)) (hgo : go s = 0) :
    ∃ (A' : Nat → List bk_E) (g' : Nat → Nat) (px' : Int32) (st' : Nat → Int32) (lf' : Nat → Int32) (cd' : Nat → Int32) (bg' : Nat → Int32) (gv' : Nat → Int32) (ob' : Nat → Int32) (ol' : Nat → Int32) (pb' : Nat → Int32) (pn' : Nat → Int32) (xp' : Nat → Int32) (fh' : Nat → Int32) (fl' : Nat → Int32) (fa' : Nat → Int32) (mk' : Nat → Int32) (cb' : Nat → Int32) (mi' : Nat → Int32) (mb' : Nat → Int32) (ml' : Nat → Int32) (pa' : Nat → Int32) (kb' : Nat → Int32) (kl' : Nat → Int32) (kc' : Nat → Int32) (th' : Nat → Int32) (pl' : Nat → Int32) (md' : Nat → Int32) (cr' : Nat → Int32) (hc' : Nat → Int32) (hg' : Nat → Int32) (hi' : Nat → Int32) (ib' : Nat → Int32) (il' : Nat → Int32) (it' : Nat → Int32) (qi' : Nat → Int32) (qc' : Nat → Int32) (gc' : Nat → Int32) (lc' : Nat → Int32) (lr' : Nat → Int32) (co' : Nat → Int32) (fr' : Int32) (en' : Int32) (ma' : Int32) (wr' : Int32) (ta' : Nat → Int32) (yp' : Nat → Int32) (ki' : Nat → Int32) (le' : Nat → Int32) (go' : Nat → Int32) (la' : Nat → Int32) (ps' : Nat → Int32) (pd' : Nat → Int32) (pt' : Nat → Int32) (kw' : Nat → Int32) (kh' : Nat → Int32) (kf' : Nat → Int32) (kz' : Nat → Int32) (ky' : Nat → Int32) (wh' : Nat → Int32) (od' : Nat → Int32) (tg' : Nat → Int32) (tr' : Nat → Int32) (so' : Nat → Int32) (bd' : Nat → Int32) (wo' : Nat → Int32) (be' : Nat → Int32), bk_S (B + 132) A' g' st' ol' th' pl' md' cr' lr' gv' ib' il' it' qi' qc' ta' wh' od' tg' tr' so' bd' fr' en' hc' hg' hi' kc' kb' kl' kw' kh' kf' kz' ky' mk' cb' mb' pb' pn' bg' be' ml' xp' fh' fl' fa' mi' yp' ki' le' go' la' ps' pd' pt' ∧
      (∀ (post : Int32 → SX → Prop) (J39 : Int32 → Int32 → Int32 → (Nat → Int32) → (Nat → Int32) → (Nat → Int32) → (Nat → Int32) → (Nat → Int32) → (Nat → Int32) → (Nat → Int32) → (Nat → Int32) → (Nat → Int32) → (Nat → Int32) → (Nat → Int32) → (Nat → Int32) → (Nat → Int32) → (Nat → Int32) → (Nat → Int32) → (Nat → Int32) → (Nat → Int32) → (Nat → Int32) → (Nat → Int32) → (Nat → Int32) → (Nat → Int32) → (Nat → Int32) → (Nat → Int32) → (Nat → Int32) → (Nat → Int32) → (Nat → Int32) → (Nat → Int32) → (Nat → Int32) → (Nat → Int32) → (Nat → Int32) → (Nat → Int32) → (Nat → Int32) → (Nat → Int32) → (Nat → Int32) → (Nat → Int32) → (Nat → Int32) → (Nat → Int32) → (Nat → Int32) → Prop) (x2 : Int64) (x4 x5 x6 : Int32), wX_feed_135 post J39 (nI s) x2 x4 x5 x6 px' st' lf' cd' bg' gv' ob' ol' pb' pn' xp' fh' fl' fa' mk' cb' mi' mb' ml' pa' kb' kl' kc' th' pl' md' cr' hc' hg' hi' ib' il' it' qi' qc' gc' lc' lr' co' → wpX_readByte (fun r u => match u with | (px, st, lf, cd, bg, gv, ob, ol, pb, pn, xp, fh, fl, fa, mk, cb, mi, mb, ml, pa, kb, kl, kc, th, pl, md, cr, hc, hg, hi, ib, il, it, qi, qc, gc, lc, lr, co) => ((r = 16 → wpX_finishFrame (fun r u => match u with | (px, st, lf, cd, bg, gv, ob, ol, pb, pn, xp, fh, fl, fa, mk, cb, mi, mb, ml, pa, kb, kl, kc, th, pl, md, cr, hc, hg, hi, ib, il, it, qi, qc, gc, lc, lr, co) => wX_feed_93 post J39 (nI s) x2 x4 x5 x6 r px st lf cd bg gv ob ol pb pn xp fh fl fa mk cb mi mb ml pa kb kl kc th pl md cr hc hg hi ib il it qi qc gc lc lr co) (px, st, lf, cd, bg, gv, ob, ol, pb, pn, xp, fh, fl, fa, mk, cb, mi, mb, ml, pa, kb, kl, kc, th, pl, md, cr, hc, hg, hi, ib, il, it, qi, qc, gc, lc, lr, co) (nI s)) ∧ (¬ r = 16 → wX_feed_93 post J39 (nI s) x2 x4 x5 x6 r px st lf cd bg gv ob ol pb pn xp fh fl fa mk cb mi mb ml pa kb kl kc th pl md cr hc hg hi ib il it qi qc gc lc lr co))) (px, st, lf, cd, bg, gv, ob, ol, pb, pn, xp, fh, fl, fa, mk, cb, mi, mb, ml, pa, kb, kl, kc, th, pl, md, cr, hc, hg, hi, ib, il, it, qi, qc, gc, lc, lr, co) (nI s) (nI b)) ∧
      (∀ (post : SY → Prop), post (fr', en', ma', wr', st', lf', cd', ta', bg', kc', ob', ol', pb', pn', yp', ki', le', go', mk', cb', mb', ml', la', ps', pd', pt', kw', kh', kf', kz', ky', th', pl', md', cr', gc', lc', lr', wh', od', tg', tr', so', bd', wo', be') → wpY_look post (fr, en, ma, wr, st, lf, cd, ta, bg, kc, ob, ol, pb, pn, yp, ki, le, go, mk, cb, mb, ml, la, ps, pd, pt, kw, kh, kf, kz, ky, th, pl, md, cr, gc, lc, lr, wh, od, tg, tr, so, bd, wo, be) (nI s) (nI b)) := by
  have cs : (nI s).toNatClampNeg = s := nI_clamp (by omega)
  have i4 : vp_in (nI s) 4 := pk_in s 4 hs
  have hn200 : n ≤ 200 := by
    by_cases q : 8 ≤ b0 % 16
    · have := hn q; omega
    · have := hzn (by omega); omega
  have e4 : nI s * 4 + nI a = nI (4 * s + a) := by rw [bn_mul, nI_add, Nat.mul_comm]
  have c4 : (nI (4 * s + a)).toNatClampNeg = 4 * s + a := nI_clamp (by omega)
  have y4 : 4 * nI s + nI (4 + a) - 4 = nI (4 * s + a) := by
    rw [bn_mul2, nI_add]
    exact (pk_sub (a := 4 * s + (4 + a)) (b := 4) (by omega)).trans (congrArg nI (by omega))
  have mkB : bk_By (upd mk (4 * s + a) (nI b)) := bk_Byu h.2.2.2.1.1 hb
  have xr : ∀ (post : Int32 → SX → Prop), (a < 3 → post 0 (px, st, lf, cd, bg, gv, ob, ol, pb, pn, xp, fh, fl, upd fa s (nI (a + 1)), upd mk (4 * s + a) (nI b), cb, mi, mb, ml, pa, kb, kl, kc, th, pl, md, cr, hc, hg, hi, ib, il, it, qi, qc, gc, lc, lr, co)) → (a = 3 → n = 0 → post 16 (px, st, lf, cd, bg, gv, ob, ol, pb, pn, upd xp s 4, fh, fl, upd fa s 0, upd mk (4 * s + a) (nI b), cb, mi, mb, ml, pa, kb, kl, kc, th, pl, md, cr, hc, hg, hi, ib, il, it, qi, qc, gc, lc, lr, co)) → (a = 3 → n ≠ 0 → post 0 (px, st, lf, cd, bg, gv, ob, ol, pb, pn, upd xp s 4, fh, fl, upd fa s 0, upd mk (4 * s + a) (nI b), cb, mi, mb, ml, pa, kb, kl, kc, th, pl, md, cr, hc, hg, hi, ib, il, it, qi, qc, gc, lc, lr, co)) → wpX_readByte post (px, st, lf, cd, bg, gv, ob, ol, pb, pn, xp, fh, fl, fa, mk, cb, mi, mb, ml, pa, kb, kl, kc, th, pl, md, cr, hc, hg, hi, ib, il, it, qi, qc, gc, lc, lr, co) (nI s) (nI b) := by
    intro post g0 g1 g2
    refine ⟨i4, ?_⟩
    rw [cs, hxp]
    refine nm_e (br_f (by decide) (br_f (by decide) (br_f (by decide) (br_f (by decide) (br_f (by decide) (br_t rfl ?_))))))
    refine ⟨i4, ?_⟩
    rw [cs, hfa, e4, c4, nI_1 a]
    refine ⟨vp_in_nI (by omega) (by omega), nm_e ⟨i4, i4, nm_e ⟨i4, ?_⟩⟩⟩
    rw [pk_us]
    refine pk_le 4 (a + 1) (fun q => ⟨i4, ?_⟩) (fun q => g0 (by omega))
    rw [bk_uu]
    refine nm_e ⟨i4, nm_e ⟨i4, ?_⟩⟩
    rw [hfl]
    exact pk_eq n 0 (fun e => g1 (by omega) e) (fun e => g2 (by omega) e)
  have yr : ∀ (post : SY → Prop), wY_look_312 post (nI s) fr en ma wr st lf cd ta bg kc ob ol pb pn (upd yp s (nI (4 + a + 1))) ki le go (upd mk (4 * s + a) (nI b)) cb mb ml la ps pd pt kw kh kf kz ky th pl md cr gc lc lr wh od tg tr so bd wo be → wpY_look post (fr, en, ma, wr, st, lf, cd, ta, bg, kc, ob, ol, pb, pn, yp, ki, le, go, mk, cb, mb, ml, la, ps, pd, pt, kw, kh, kf, kz, ky, th, pl, md, cr, gc, lc, lr, wh, od, tg, tr, so, bd, wo, be) (nI s) (nI b) := by
    intro post hp
    have f : wY_look_284 post (nI s) (nI b) fr en ma wr st lf cd ta bg kc ob ol pb pn yp ki le go mk cb mb ml la ps pd pt kw kh kf kz ky th pl md cr gc lc lr wh od tg tr so bd wo be := by
      refine ⟨i4, ?_⟩
      rw [cs, hyp, y4, c4, nI_1]
      exact ⟨vp_in_nI (by omega) (by omega), nm_e ⟨i4, i4, nm_e hp⟩⟩
    refine ⟨i4, ?_⟩
    rw [cs, hyp]
    refine nm_e (br_f (nI_pos (by omega)) (br_f (nI_nlt (a := 8) (by omega) (by omega)) ?_))
    have aa : a = 0 ∨ a = 1 ∨ a = 2 ∨ a = 3 := by omega
    rcases aa with rfl | rfl | rfl | rfl
    · exact br_f (by decide) (br_f (by decide) (br_f (by decide) (br_f (by decide) (br_t rfl f))))
    · exact br_f (by decide) (br_f (by decide) (br_f (by decide) (br_f (by decide) (br_f (by decide) (br_t rfl f)))))
    · exact br_f (by decide) (br_f (by decide) (br_f (by decide) (br_f (by decide) (br_f (by decide) (br_f (by decide) (br_t rfl f))))))
    · exact br_f (by decide) (br_f (by decide) (br_f (by decide) (br_f (by decide) (br_f (by decide) (br_f (by decide) (br_f (by decide) (br_t rfl f)))))))
  have hS0 : bk_S0 B A g st ol th pl md cr lr gv ib il it qi qc ta wh od tg tr so bd fr en hc hg hi kc kb kl kw kh kf kz ky (upd mk (4 * s + a) (nI b)) cb mb pb pn bg be := ⟨h.1, h.2.1, h.2.2.1, ⟨mkB, h.2.2.2.1.2⟩, h.2.2.2.2⟩
  by_cases a3 : a = 3
  rotate_left
  · refine ⟨A, g, px, st, lf, cd, bg, gv, ob, ol, pb, pn, xp, fh, fl, upd fa s (nI (a + 1)), upd mk (4 * s + a) (nI b), cb, mi, mb, ml, pa, kb, kl, kc, th, pl, md, cr, hc, hg, hi, ib, il, it, qi, qc, gc, lc, lr, co, fr, en, ma, wr, ta, upd yp s (nI (4 + a + 1)), ki, le, go, la, ps, pd, pt, kw, kh, kf, kz, ky, wh, od, tg, tr, so, bd, wo, be, ⟨⟨dk_mono hS0.1 (by omega), hS0.2⟩, fun q hq => ?_⟩, ?_, ?_⟩
    · by_cases e : q = s
      · subst e
        exact ⟨z, hz, hml, Or.inr ⟨b0, b0 % 16, hb0, rfl, hfh, hki, hla, hps, hk, Or.inr (Or.inr ⟨n, hn200, hn, hfl, hle, Or.inl ⟨hxp, hzn, a + 1, by omega, pk_us, pk_us, hgo⟩⟩)⟩⟩
      · exact bk_F_of (hF q hq e) rfl rfl rfl rfl (pk_un e) rfl (pk_un e) rfl rfl rfl rfl rfl rfl rfl
    · intro post J39 x2 x4 x5 x6 hp
      exact xr _ (fun _ => br_f (by decide) (br_f (by decide) (br_f (by decide) (br_t rfl hp)))) (fun q => absurd q a3) (fun q => absurd q a3)
    · intro post hp
      exact yr _ (yk_312 hs (Or.inl (by rw [pk_us]; exact fun q => by have := (nI_eq (a := 4 + a + 1) (b := 8) (by omega) (by omega)).mp q; omega)) hp)
  · subst a3
    have hF' : ∀ q, q < 4 → q ≠ s → bk_F ml (upd xp s 4) fh fl (upd fa s 0) mi (upd yp s (nI (4 + 3 + 1))) ki le go la ps pd pt q := fun q hq e => bk_F_of (hF q hq e) rfl (pk_un e) rfl rfl (pk_un e) rfl (pk_un e) rfl rfl rfl rfl rfl rfl rfl
    by_cases n0 : n = 0
    · subst n0
      obtain ⟨A', g', px', st', lf', cd', bg', gv', ob', ol', pb', pn', xp', fh', fl', fa', mk', cb', mi', mb', ml', pa', kb', kl', kc', th', pl', md', cr', hc', hg', hi', ib', il', it', qi', qc', gc', lc', lr', co', fr', en', ma', wr', ta', yp', ki', le', go', la', ps', pd', pt', kw', kh', kf', kz', ky', wh', od', tg', tr', so', bd', wo', be', hS, x1, y1⟩ := lk_done (px := px) (st := st) (lf := lf) (cd := cd) (bg := bg) (gv := gv) (ob := ob) (ol := ol) (pb := pb) (pn := pn) (fh := fh) (fl := fl) (cb := cb) (mi := mi) (mb := mb) (ml := ml) (pa := pa) (kb := kb) (kl := kl) (kc := kc) (th := th) (pl := pl) (md := md) (cr := cr) (hc := hc) (hg := hg) (hi := hi) (ib := ib) (il := il) (it := it) (qi := qi) (qc := qc) (gc := gc) (lc := lc) (lr := lr) (co := co) (fr := fr) (en := en) (ma := ma) (wr := wr) (ta := ta) (ki := ki) (le := le) (go := go) (la := la) (ps := ps) (pd := pd) (pt := pt) (kw := kw) (kh := kh) (kf := kf) (kz := kz) (ky := ky) (wh := wh) (od := od) (tg := tg) (tr := tr) (so := so) (bd := bd) (wo := wo) (be := be) (mk := upd mk (4 * s + 3) (nI b)) (fa := upd fa s 0) (xp := upd xp s 4) (yp := upd yp s (nI (4 + 3 + 1))) hS0 hs hF' hst hz hml hb0 hfh hki hla hps hk hn hfl hle hB
      refine ⟨A', g', px', st', lf', cd', bg', gv', ob', ol', pb', pn', xp', fh', fl', fa', mk', cb', mi', mb', ml', pa', kb', kl', kc', th', pl', md', cr', hc', hg', hi', ib', il', it', qi', qc', gc', lc', lr', co', fr', en', ma', wr', ta', yp', ki', le', go', la', ps', pd', pt', kw', kh', kf', kz', ky', wh', od', tg', tr', so', bd', wo', be', hS, ?_, ?_⟩
      · intro post J39 x2 x4 x5 x6 hp
        exact xr _ (fun q => by omega) (fun _ _ => br_t rfl (x1 post J39 x2 x4 x5 x6 hp)) (fun _ q => absurd rfl q)
      · intro post hp
        exact yr _ (yk_312d hs pk_us (by rw [hgo, hle]; rfl) (y1 _ hp))
    · refine ⟨A, g, px, st, lf, cd, bg, gv, ob, ol, pb, pn, upd xp s 4, fh, fl, upd fa s 0, upd mk (4 * s + 3) (nI b), cb, mi, mb, ml, pa, kb, kl, kc, th, pl, md, cr, hc, hg, hi, ib, il, it, qi, qc, gc, lc, lr, co, fr, en, ma, wr, ta, upd yp s (nI (4 + 3 + 1)), ki, le, go, la, ps, pd, pt, kw, kh, kf, kz, ky, wh, od, tg, tr, so, bd, wo, be, ⟨⟨dk_mono hS0.1 (by omega), hS0.2⟩, fun q hq => ?_⟩, ?_, ?_⟩
      · by_cases e : q = s
        · subst e
          exact ⟨z, hz, hml, Or.inr ⟨b0, b0 % 16, hb0, rfl, hfh, hki, hla, hps, hk, Or.inr (Or.inr ⟨n, hn200, hn, hfl, hle, Or.inr ⟨pk_us, pk_us, 0, by omega, pk_us, hgo, fun w => by have := hzn w; omega⟩⟩)⟩⟩
        · exact hF' q hq e
      · intro post J39 x2 x4 x5 x6 hp
        exact xr _ (fun q => by omega) (fun _ q => absurd q n0) (fun _ _ => br_f (by decide) (br_f (by decide) (br_f (by decide) (br_t rfl hp))))
      · intro post hp
        exact yr _ (yk_312 hs (Or.inr (by rw [hgo, hle]; exact fun q => n0 ((nI_eq (a := 0) (b := n) (by omega) (by omega)).mp q).symm)) hp)
end LK2
