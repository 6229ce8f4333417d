section MSG2
variable {B : Nat} {A : Nat → List bk_E} {g : Nat → Nat} {st lf cd bg gv ob ol pb pn xp fh fl fa mk cb mi mb ml pa kb kl kc th pl md cr hc hg hi ib il it qi qc gc lc lr co ta yp ki le go la ps pd pt kw kh kf kz ky wh od tg tr so bd wo be : Nat → Int32} {px fr en ma wr : Int32}
/-- Y: all bytes become part of the past, then the command -/
theorem yk_m96 {post : SY → Prop} {s k m : Nat} {pb0 pn0 : Nat → Int32} (hs : s < 4) (hk : k ≤ 64) (hm : m ≤ 200)
    (hend : ∀ f, wY_message_96 post (nI s) (f + 1) (nI m) fr en (nI m) wr st lf cd ta bg kc ob ol (bk_past pb0 wo s k m) (upd pn0 s (nI (min 64 (k + m)))) yp ki le go mk cb mb ml la ps pd pt kw kh kf kz ky th pl md cr gc lc lr wh od tg tr so bd wo be) :
    ∀ f i, i ≤ m → m - i < f → wY_message_96 post (nI s) f (nI i) fr en (nI m) wr st lf cd ta bg kc ob ol (bk_past pb0 wo s k i) (upd pn0 s (nI (min 64 (k + i)))) yp ki le go mk cb mb ml la ps pd pt kw kh kf kz ky th pl md cr gc lc lr wh od tg tr so bd wo be
  | 0, i, _, h => by omega
  | f + 1, i, h1, h2 => by
    by_cases e : i = m
    · subst e; exact hend f
    · have ci : (nI i).toNatClampNeg = i := nI_clamp (by omega)
      refine br_f (nI_ge (by omega) (by omega)) ?_
      rw [ci]
      refine ⟨vp_in_nI (by omega) (by omega), yk_remember hs hk (nm_r (nI_1 i) ?_)⟩
      exact yk_m96 hs hk hm hend f (i + 1) (by omega) (by omega)
theorem lk_msg (h : bk_S0 B A g st ol th pl md cr lr gv ib il it qi qc ta wh od tg tr so bd fr en hc hg hi kc kb kl kw kh kf kz ky mk cb mb pb pn bg be) {s n : Nat} (hs : s < 4) (hF : ∀ z, z < 4 → z ≠ s → bk_F ml xp fh fl fa mi yp ki le go la ps pd pt z) (hn : n ≤ 200) (hml : ml s = nI n) (hx0 : xp s = 0) (hy0 : yp s = 0) (hpt : pt s = 0) (hst : st s = 1) (hk : (mi s = 2 ∧ pd s = 1) ∨ (mi s ≠ 2 ∧ pd s = 0)) (hB : B + 132 ≤ 100000000) :
    ∃ (A' : Nat → List bk_E) (g' : Nat → Nat) (px' : Int32) (st' : Nat → Int32) (lf' : Nat → Int32) (cd' : Nat → Int32) (bg' : Nat → Int32) (gv' : Nat → Int32) (ob' : Nat → Int32) (ol' : Nat → Int32) (pb' : Nat → Int32) (pn' : Nat → Int32) (xp' : Nat → Int32) (fh' : Nat → Int32) (fl' : Nat → Int32) (fa' : Nat → Int32) (mk' : Nat → Int32) (cb' : Nat → Int32) (mi' : Nat → Int32) (mb' : Nat → Int32) (ml' : Nat → Int32) (pa' : Nat → Int32) (kb' : Nat → Int32) (kl' : Nat → Int32) (kc' : Nat → Int32) (th' : Nat → Int32) (pl' : Nat → Int32) (md' : Nat → Int32) (cr' : Nat → Int32) (hc' : Nat → Int32) (hg' : Nat → Int32) (hi' : Nat → Int32) (ib' : Nat → Int32) (il' : Nat → Int32) (it' : Nat → Int32) (qi' : Nat → Int32) (qc' : Nat → Int32) (gc' : Nat → Int32) (lc' : Nat → Int32) (lr' : Nat → Int32) (co' : Nat → Int32) (fr' : Int32) (en' : Int32) (ma' : Int32) (wr' : Int32) (ta' : Nat → Int32) (yp' : Nat → Int32) (ki' : Nat → Int32) (le' : Nat → Int32) (go' : Nat → Int32) (la' : Nat → Int32) (ps' : Nat → Int32) (pd' : Nat → Int32) (pt' : Nat → Int32) (kw' : Nat → Int32) (kh' : Nat → Int32) (kf' : Nat → Int32) (kz' : Nat → Int32) (ky' : Nat → Int32) (wh' : Nat → Int32) (od' : Nat → Int32) (tg' : Nat → Int32) (tr' : Nat → Int32) (so' : Nat → Int32) (bd' : Nat → Int32) (wo' : Nat → Int32) (be' : Nat → Int32), bk_S (B + 132) A' g' st' ol' th' pl' md' cr' lr' gv' ib' il' it' qi' qc' ta' wh' od' tg' tr' so' bd' fr' en' hc' hg' hi' kc' kb' kl' kw' kh' kf' kz' ky' mk' cb' mb' pb' pn' bg' be' ml' xp' fh' fl' fa' mi' yp' ki' le' go' la' ps' pd' pt' ∧
      (∀ (post : Int32 → SX → Prop) (J39 : Int32 → Int32 → Int32 → (Nat → Int32) → (Nat → Int32) → (Nat → Int32) → (Nat → Int32) → (Nat → Int32) → (Nat → Int32) → (Nat → Int32) → (Nat → Int32) → (Nat → Int32) → (Nat → Int32) → (Nat → Int32) → (Nat → Int32) → (Nat → Int32) → (Nat → Int32) → (Nat → Int32) → (Nat → Int32) → (Nat → Int32) → (Nat → Int32) → (Nat → Int32) → (Nat → Int32) → (Nat → Int32) → (Nat → Int32) → (Nat → Int32) → (Nat → Int32) → (Nat → Int32) → (Nat → Int32) → (Nat → Int32) → (Nat → Int32) → (Nat → Int32) → (Nat → Int32) → (Nat → Int32) → (Nat → Int32) → (Nat → Int32) → (Nat → Int32) → (Nat → Int32) → (Nat → Int32) → (Nat → Int32) → (Nat → Int32) → Prop) (x2 : Int64) (x4 x5 x6 : Int32), wX_feed_135 post J39 (nI s) x2 x4 x5 x6 px' st' lf' cd' bg' gv' ob' ol' pb' pn' xp' fh' fl' fa' mk' cb' mi' mb' ml' pa' kb' kl' kc' th' pl' md' cr' hc' hg' hi' ib' il' it' qi' qc' gc' lc' lr' co' → wpX_finishMessage (fun r u => match u with | (px, st, lf, cd, bg, gv, ob, ol, pb, pn, xp, fh, fl, fa, mk, cb, mi, mb, ml, pa, kb, kl, kc, th, pl, md, cr, hc, hg, hi, ib, il, it, qi, qc, gc, lc, lr, co) => wX_feed_93 post J39 (nI s) x2 x4 x5 x6 r px st lf cd bg gv ob ol pb pn xp fh fl fa mk cb mi mb ml pa kb kl kc th pl md cr hc hg hi ib il it qi qc gc lc lr co) (px, st, lf, cd, bg, gv, ob, ol, pb, pn, xp, fh, fl, fa, mk, cb, mi, mb, ml, pa, kb, kl, kc, th, pl, md, cr, hc, hg, hi, ib, il, it, qi, qc, gc, lc, lr, co) (nI s)) ∧
      (∀ (post : SY → Prop), post (fr', en', ma', wr', st', lf', cd', ta', bg', kc', ob', ol', pb', pn', yp', ki', le', go', mk', cb', mb', ml', la', ps', pd', pt', kw', kh', kf', kz', ky', th', pl', md', cr', gc', lc', lr', wh', od', tg', tr', so', bd', wo', be') → wpY_message post (fr, en, ma, wr, st, lf, cd, ta, bg, kc, ob, ol, pb, pn, yp, ki, le, go, mk, cb, mb, ml, la, ps, pd, pt, kw, kh, kf, kz, ky, th, pl, md, cr, gc, lc, lr, wh, od, tg, tr, so, bd, wo, be) (nI s)) := by
  have cs : (nI s).toNatClampNeg = s := nI_clamp (by omega)
  have i4 : vp_in (nI s) 4 := pk_in s 4 hs
  obtain ⟨k0, hk0, ek0⟩ := h.2.2.2.2.1 s hs
  obtain ⟨e, m, pa1, wo1, he, hm, ag, x1, y1⟩ := lk_plain (px := px) (st := st) (lf := lf) (cd := cd) (bg := bg) (gv := gv) (ob := ob) (ol := ol) (pb := pb) (pn := pn) (xp := xp) (fh := fh) (fl := fl) (fa := fa) (mk := mk) (cb := cb) (mi := mi) (mb := mb) (ml := ml) (pa := pa) (kb := kb) (kl := kl) (kc := kc) (th := th) (pl := pl) (md := md) (cr := cr) (hc := hc) (hg := hg) (hi := hi) (ib := ib) (il := il) (it := it) (qi := qi) (qc := qc) (gc := gc) (lc := lc) (lr := lr) (co := co) (fr := fr) (en := en) (ma := ma) (wr := wr) (ta := ta) (yp := yp) (ki := ki) (le := le) (go := go) (la := la) (ps := ps) (pd := pd) (pt := pt) (kw := kw) (kh := kh) (kf := kf) (kz := kz) (ky := ky) (wh := wh) (od := od) (tg := tg) (tr := tr) (so := so) (bd := bd) (wo := wo) (be := be) hs hn hml h.2.2.2.1.2.2.1 h.2.2.2.1.2.2.2 ⟨k0, hk0, ek0⟩ hk
  have hF' : ∀ z, z < 4 → z ≠ s → bk_F (upd ml s 0) xp fh fl fa (upd mi s 0) yp ki le go la ps pd pt z := fun z hz ne => bk_F_of (hF z hz ne) (pk_un ne) rfl rfl rfl rfl (pk_un ne) rfl rfl rfl rfl rfl rfl rfl rfl
  by_cases e0 : e = 0
  rotate_left
  · -- it can't be unpacked
    obtain ⟨d, hS, xf, yf⟩ := lk_S_fault (gv := gv) (ob := ob) (ol := ol) (th := th) (pl := pl) (md := md) (cr := cr) (hc := hc) (hg := hg) (hi := hi) (ib := ib) (il := il) (it := it) (qi := qi) (qc := qc) (gc := gc) (lc := lc) (lr := lr) (fr := fr) (en := en) (ta := ta) (wh := wh) (od := od) (tg := tg) (tr := tr) (so := so) (bd := bd) (st := st) (bg := bg) (kc := kc) (pb := pb) (pn := pn) (yp := yp) (ki := ki) (le := le) (go := go) (mk := mk) (cb := cb) (mb := mb) (la := la) (ps := ps) (pd := pd) (pt := pt) (kw := kw) (kh := kh) (kf := kf) (kz := kz) (ky := ky) (be := be) (xp := xp) (fh := fh) (fl := fl) (fa := fa) (kb := kb) (kl := kl) (mi := upd mi s 0) (ml := upd ml s 0) h hs hF' (by omega) (nI e)
    rw [bk_uu, bk_uu] at hS
    refine ⟨zz_A d, zz_g d, nI m, upd st s (nI 2), upd lf s (nI e), cd, upd bg s 0, zz_gv d, zz_ob d, zz_ol d, pb, pn, upd xp s 0, fh, fl, fa, mk, cb, upd mi s 0, mb, upd ml s 0, pa1, kb, kl, upd kc s 0, zz_th d, pl, md, cr, zz_hc d, zz_hg d, zz_hi d, zz_ib d, zz_il d, zz_it d, zz_qi d, zz_qc d, zz_gc d, zz_lc d, zz_lr d, co, zz_fr d, zz_en d, nI m, nI e, zz_ta d, upd yp s 0, ki, le, go, la, ps, pd, upd pt s 0, kw, kh, kf, kz, ky, zz_wh d, zz_od d, zz_tg d, zz_tr d, zz_so d, zz_bd d, upd wo1 0 (nI e), be, bk_S_mono hS (by omega), ?_, ?_⟩
    · intro post J39 x2 x4 x5 x6 hp
      refine x1 _ ⟨i4, ?_⟩
      rw [cs]
      refine nm_e ⟨i4, nm_e (br_f (nI_ne0 (by omega) (by omega)) ?_)⟩
      refine br_f (fun z => by have := (nI_eq (a := e) (b := 17) (by omega) (by omega)).mp z; omega) (br_f (fun z => by have := (nI_eq (a := e) (b := 18) (by omega) (by omega)).mp z; omega) (br_f (nI_ne0 (by omega) (by omega)) (xf _ ?_)))
      rw [bk_uu, bk_uu]
      exact hp
    · intro post hp
      refine y1 _ (br_f (nI_nle (by omega) (by omega)) (yf _ ?_))
      rw [bk_uu]
      exact hp
  · subst e0
    have hv : ∃ v : Nat → Nat, (∀ j, v j < 256) ∧ (∀ j, j < m → pa1 j = nI (v j)) ∧ ∀ j, j < m → wo1 j = nI (v j) := by
      refine ⟨fun j => (pa1 j).toNatClampNeg % 256, fun j => Nat.mod_lt _ (by omega), fun j hj => ?_, fun j hj => ?_⟩
      · obtain ⟨v, hv, e1, e2⟩ := ag j hj
        dsimp only
        rw [e1, nI_clamp (by omega), Nat.mod_eq_of_lt hv]
      · obtain ⟨v, hv, e1, e2⟩ := ag j hj
        dsimp only
        rw [e1, nI_clamp (by omega), Nat.mod_eq_of_lt hv]
        exact e2
    obtain ⟨v, hv2, hpa, hwo⟩ := hv
    obtain ⟨b, hb4, hb⟩ := h.2.2.2.2.2.1 s hs
    obtain ⟨c, hc6, hc', _⟩ := h.2.2.1 s hs
    have pbE : bk_past pb pa1 s k0 m = bk_past pb wo1 s k0 m := bk_past_congr pb pa1 wo1 s k0 m hk0 (fun j hj => (hpa j hj).trans (hwo j hj).symm)
    have hS0 : bk_S0 B A g st ol th pl md cr lr gv ib il it qi qc ta wh od tg tr so bd fr en hc hg hi kc kb kl kw kh kf kz ky mk cb mb (bk_past pb wo1 s k0 m) (upd pn s (nI (min 64 (k0 + m)))) bg be := by
      obtain ⟨h1, h2, h3, ⟨b1, b2, b3, b4⟩, h5, h6, h7, h8⟩ := h
      refine ⟨h1, h2, h3, ⟨b1, b2, b3, bk_By_past b4 (fun j hj => ⟨v j, hv2 j, hwo j hj⟩) hk0⟩, fun z hz => ?_, h6, h7, h8⟩
      by_cases ez : z = s
      · subst ez; exact ⟨_, by omega, pk_us⟩
      · rw [pk_un ez]; exact h5 z hz
    -- X's and Y's ways to the command
    have xw : ∀ (post : Int32 → SX → Prop), wpX_isCommand (fun r => (((r = 0 → (post 8 (nI m, st, lf, cd, bg, gv, ob, ol, bk_past pb wo1 s k0 m, upd pn s (nI (min 64 (k0 + m))), xp, fh, fl, fa, mk, cb, upd mi s 0, mb, upd ml s 0, pa1, kb, kl, kc, th, pl, md, cr, hc, hg, hi, ib, il, it, qi, qc, gc, lc, lr, co))) ∧ (¬ r = 0 → (vp_in (nI s) 4 ∧ (vp_in (nI s) 4 ∧ ∀ y, y = upd cd s (cd s + 1) → (post 17 (nI m, st, lf, y, bg, gv, ob, ol, bk_past pb wo1 s k0 m, upd pn s (nI (min 64 (k0 + m))), xp, fh, fl, fa, mk, cb, upd mi s 0, mb, upd ml s 0, pa1, kb, kl, kc, th, pl, md, cr, hc, hg, hi, ib, il, it, qi, qc, gc, lc, lr, co)))))))) (nI m, st, lf, cd, bg, gv, ob, ol, bk_past pb wo1 s k0 m, upd pn s (nI (min 64 (k0 + m))), xp, fh, fl, fa, mk, cb, upd mi s 0, mb, upd ml s 0, pa1, kb, kl, kc, th, pl, md, cr, hc, hg, hi, ib, il, it, qi, qc, gc, lc, lr, co) (nI s) → wpX_finishMessage post (px, st, lf, cd, bg, gv, ob, ol, pb, pn, xp, fh, fl, fa, mk, cb, mi, mb, ml, pa, kb, kl, kc, th, pl, md, cr, hc, hg, hi, ib, il, it, qi, qc, gc, lc, lr, co) (nI s) := by
      intro post hp
      refine x1 post ⟨i4, ?_⟩
      rw [cs]
      refine nm_e ⟨i4, nm_e (br_t rfl (xk_remember hs hk0 hm ek0 ?_))⟩
      rw [pbE]
      exact hp
    have yw : ∀ (post : SY → Prop), (m = 0 → wY_message_140 post (nI s) fr en (nI m) 0 st lf cd ta bg kc ob ol (bk_past pb wo1 s k0 m) (upd pn s (nI (min 64 (k0 + m)))) yp ki le go mk cb mb (upd ml s 0) la ps pd pt kw kh kf kz ky th pl md cr gc lc lr wh od tg tr so bd wo1 be) → (1 ≤ m → wpY_command (fun r u => match u with | (fr, en, ma, wr, st, lf, cd, ta, bg, kc, ob, ol, pb, pn, yp, ki, le, go, mk, cb, mb, ml, la, ps, pd, pt, kw, kh, kf, kz, ky, th, pl, md, cr, gc, lc, lr, wh, od, tg, tr, so, bd, wo, be) => (((r = 0 → (wY_message_140 post (nI s) fr en ma wr st lf cd ta bg kc ob ol pb pn yp ki le go mk cb mb ml la ps pd pt kw kh kf kz ky th pl md cr gc lc lr wh od tg tr so bd wo be)) ∧ (¬ r = 0 → (wY_message_141 post (nI s) 1 fr en ma wr st lf cd ta bg kc ob ol pb pn yp ki le go mk cb mb ml la ps pd pt kw kh kf kz ky th pl md cr gc lc lr wh od tg tr so bd wo be))))) (fr, en, nI m, 0, st, lf, cd, ta, bg, kc, ob, ol, bk_past pb wo1 s k0 m, upd pn s (nI (min 64 (k0 + m))), yp, ki, le, go, mk, cb, mb, upd ml s 0, la, ps, pd, pt, kw, kh, kf, kz, ky, th, pl, md, cr, gc, lc, lr, wh, od, tg, tr, so, bd, wo1, be) (nI s)) → wpY_message post (fr, en, ma, wr, st, lf, cd, ta, bg, kc, ob, ol, pb, pn, yp, ki, le, go, mk, cb, mb, ml, la, ps, pd, pt, kw, kh, kf, kz, ky, th, pl, md, cr, gc, lc, lr, wh, od, tg, tr, so, bd, wo, be) (nI s) := by
      intro post hp0 hp1
      refine y1 post (br_t (by decide) ⟨m + 1, ?_⟩)
      have w := yk_m96 (post := post) (wo := wo1) (ml := upd ml s 0) (wr := 0) (st := st) (lf := lf) (cd := cd) (bg := bg) (ob := ob) (ol := ol) (mk := mk) (cb := cb) (mb := mb) (kc := kc) (th := th) (pl := pl) (md := md) (cr := cr) (gc := gc) (lc := lc) (lr := lr) (fr := fr) (en := en) (ta := ta) (yp := yp) (ki := ki) (le := le) (go := go) (la := la) (ps := ps) (pd := pd) (pt := pt) (kw := kw) (kh := kh) (kf := kf) (kz := kz) (ky := ky) (wh := wh) (od := od) (tg := tg) (tr := tr) (so := so) (bd := bd) (be := be) (pb0 := pb) (pn0 := pn) hs hk0 hm (fun f => by
        refine br_t (nI_le (Nat.le_refl _) (by omega)) ?_
        exact pk_le m 0 (fun g => hp0 (by omega)) (fun g => hp1 (by omega))) (m + 1) 0 (by omega) (by omega)
      rw [bk_past0 pb wo1 s k0 hk0, show min 64 (k0 + 0) = k0 by omega, bk_uid pn s _ ek0] at w
      exact w
    by_cases ok : 1 ≤ m ∧ bk_Vd th s m b c v
    rotate_left
    · -- FAULT 8
      obtain ⟨d, hS, xf, yf⟩ := lk_S_fault (st := st) (bg := bg) (gv := gv) (ob := ob) (ol := ol) (xp := xp) (fh := fh) (fl := fl) (fa := fa) (mk := mk) (cb := cb) (mb := mb) (kb := kb) (kl := kl) (kc := kc) (th := th) (pl := pl) (md := md) (cr := cr) (hc := hc) (hg := hg) (hi := hi) (ib := ib) (il := il) (it := it) (qi := qi) (qc := qc) (gc := gc) (lc := lc) (lr := lr) (fr := fr) (en := en) (ta := ta) (yp := yp) (ki := ki) (le := le) (go := go) (la := la) (ps := ps) (pd := pd) (pt := pt) (kw := kw) (kh := kh) (kf := kf) (kz := kz) (ky := ky) (wh := wh) (od := od) (tg := tg) (tr := tr) (so := so) (bd := bd) (be := be) (mi := upd mi s 0) (ml := upd ml s 0) (pb := bk_past pb wo1 s k0 m) (pn := upd pn s (nI (min 64 (k0 + m)))) hS0 hs hF' (by omega) 8
      rw [bk_uu, bk_uu] at hS
      refine ⟨zz_A d, zz_g d, nI m, upd st s (nI 2), upd lf s 8, cd, upd bg s 0, zz_gv d, zz_ob d, zz_ol d, bk_past pb wo1 s k0 m, upd pn s (nI (min 64 (k0 + m))), upd xp s 0, fh, fl, fa, mk, cb, upd mi s 0, mb, upd ml s 0, pa1, kb, kl, upd kc s 0, zz_th d, pl, md, cr, zz_hc d, zz_hg d, zz_hi d, zz_ib d, zz_il d, zz_it d, zz_qi d, zz_qc d, zz_gc d, zz_lc d, zz_lr d, co, zz_fr d, zz_en d, nI m, 0, zz_ta d, upd yp s 0, ki, le, go, la, ps, pd, upd pt s 0, kw, kh, kf, kz, ky, zz_wh d, zz_od d, zz_tg d, zz_tr d, zz_so d, zz_bd d, upd wo1 0 8, be, bk_S_mono hS (by omega), ?_, ?_⟩
      · intro post J39 x2 x4 x5 x6 hp
        refine xw _ (xk_isCommand hs hm hv2 hpa hb hb4 hc' hc6 (fun q1 q2 => absurd ⟨q1, q2⟩ ok) (fun _ => br_t rfl ?_))
        refine br_f (by decide) (br_f (by decide) (br_f (by decide) (xf _ ?_)))
        rw [bk_uu, bk_uu]
        exact hp
      · intro post hp
        have fin : wY_message_140 post (nI s) fr en (nI m) 0 st lf cd ta bg kc ob ol (bk_past pb wo1 s k0 m) (upd pn s (nI (min 64 (k0 + m)))) yp ki le go mk cb mb (upd ml s 0) la ps pd pt kw kh kf kz ky th pl md cr gc lc lr wh od tg tr so bd wo1 be := by
          refine br_t rfl (yf _ ?_)
          rw [bk_uu]
          exact hp
        refine yw post (fun _ => fin) (fun q1 => yk_command hs q1 hm hv2 hwo hb hb4 hc' hc6 (fun _ => br_t rfl fin) (fun z => absurd ⟨q1, z⟩ ok) (fun z => absurd ⟨q1, z⟩ ok) (fun z => absurd ⟨q1, z⟩ ok) (fun z => absurd ⟨q1, z⟩ ok) (fun z => absurd ⟨q1, z⟩ ok) (fun z => absurd ⟨q1, z⟩ ok) (fun z => absurd ⟨q1, z⟩ ok) (fun z => absurd ⟨q1, z⟩ ok))
    · obtain ⟨q1, valid⟩ := ok
      obtain ⟨h1, h2, h3, h4, h5, h6, h7, h8⟩ := hS0
      obtain ⟨d, pl', md', cr', bg', kb', kl', kc', kw', kh', kf', kz', ky', c1, r1, K1, bg1, t1, xc, yc⟩ := lk_cmdA (ob := ob) (gc := gc) (lc := lc) h1 h2 h3 h6 (by omega) hs q1 hm hv2 hb hb4 hc' hc6 valid
      obtain ⟨wo2, yc⟩ := yc (lf := lf) (cd := cd) (pb := bk_past pb wo1 s k0 m) (pn := upd pn s (nI (min 64 (k0 + m)))) (yp := yp) (ki := ki) (le := le) (go := go) (mk := mk) (cb := cb) (mb := mb) (ml := upd ml s 0) (la := la) (ps := ps) (pd := pd) (pt := pt) (wo := wo1) (be := be) (wr := 0) hwo
      refine ⟨zz_A d, zz_g d, nI m, st, lf, upd cd s (cd s + 1), bg', zz_gv d, zz_ob d, zz_ol d, bk_past pb wo1 s k0 m, upd pn s (nI (min 64 (k0 + m))), xp, fh, fl, fa, mk, cb, upd mi s 0, mb, upd ml s 0, pa1, kb', kl', kc', zz_th d, pl', md', cr', zz_hc d, zz_hg d, zz_hi d, zz_ib d, zz_il d, zz_it d, zz_qi d, zz_qc d, zz_gc d, zz_lc d, zz_lr d, co, zz_fr d, zz_en d, nI m, 0, zz_ta d, yp, ki, le, go, la, ps, pd, pt, kw', kh', kf', kz', ky', zz_wh d, zz_od d, zz_tg d, zz_tr d, zz_so d, zz_bd d, wo2, be, ⟨⟨dk_mono c1 (by omega), r1, K1, h4, h5, bg1, ?_, h8⟩, ?_⟩, ?_, ?_⟩
      · intro z hz
        by_cases ez : z = s
        · subst ez; exact Or.inl hst
        · rcases h7 z hz with w | w
          · exact Or.inl w
          · exact Or.inr (fun r hr er => by rw [t1 r (by omega)]; exact w r hr er)
      · intro z hz
        by_cases ez : z = s
        · subst ez
          exact bk_F_zero pk_us hx0 hy0 pk_us hpt
        · exact hF' z hz ez
      · intro post J39 x2 x4 x5 x6 hp
        refine xw _ (xk_isCommand hs hm hv2 hpa hb hb4 hc' hc6 (fun _ _ => br_f (by decide) ⟨i4, i4, nm_e ?_⟩) (fun z => absurd z (by rintro (z | z); omega; exact z valid)))
        exact br_t rfl (xc pa1 _ hpa hp)
      · intro post hp
        refine yw post (fun z => by omega) (fun _ => yc _ (br_f (by decide) ?_))
        refine br_f (by decide) ⟨i4, i4, ?_⟩
        rw [cs]
        exact nm_e hp
end MSG2
