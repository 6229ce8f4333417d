/-! bytes of a long -/
theorem bl_c : ∀ k, k < 64 → ((nI k).toInt64 &&& 63) = lN k := by decide +kernel
theorem bl_cu : ∀ k, k < 64 → ((nI k).toInt64.toUInt64 &&& Int64.toUInt64 63) = UInt64.ofNat k := by decide +kernel
theorem bl_sm : ∀ k, k < 64 → (BitVec.ofNat 64 k).smod 64 = BitVec.ofNat 64 k := by decide +kernel
theorem bl_255 : ∀ j, j < 32 → (255 : Int32).toBitVec.getLsbD j = decide (j < 8) := by decide +kernel
theorem bl_mod : ∀ k, k < 64 → ((UInt64.ofNat k).toBitVec % 64#64).toNat = k := by decide +kernel
theorem bl_eq (x : Int64) (k : Nat) (hk : k ≤ 56) : ((x.toUInt64 >>> UInt64.ofNat k).toInt64.toInt32 &&& 255) = ((x >>> lN k).toInt32 &&& 255) := by
  apply Int32.toBitVec_inj.mp
  apply BitVec.eq_of_getLsbD_eq
  intro j hj
  rw [Int32.toBitVec_and, Int32.toBitVec_and, BitVec.getLsbD_and, BitVec.getLsbD_and, bl_255 j hj]
  by_cases h8 : j < 8
  · have l1 : (x.toUInt64 >>> UInt64.ofNat k).toInt64.toInt32.toBitVec.getLsbD j = x.toBitVec.getLsbD (k + j) := by
      rw [Int64.toBitVec_toInt32, BitVec.getLsbD_signExtend]
      have : (x.toUInt64 >>> UInt64.ofNat k).toInt64.toBitVec = x.toBitVec >>> ((UInt64.ofNat k).toBitVec % 64#64) := rfl
      rw [this, BitVec.ushiftRight_eq', bl_mod k (by omega), BitVec.getLsbD_ushiftRight]
      simp [show j < 32 by omega, show j < 64 by omega]
    have l2 : (x >>> lN k).toInt32.toBitVec.getLsbD j = x.toBitVec.getLsbD (k + j) := by
      rw [Int64.toBitVec_toInt32, BitVec.getLsbD_signExtend, Int64.toBitVec_shiftRight]
      have e : (lN k).toBitVec = BitVec.ofNat 64 k := rfl
      have e2 : (BitVec.ofNat 64 k).toNat = k := by rw [BitVec.toNat_ofNat]; omega
      rw [e]
      have e3 := bl_sm k (by omega)
      rw [e3, show ∀ (x y : BitVec 64), x.sshiftRight' y = x.sshiftRight y.toNat from fun _ _ => rfl, e2, BitVec.getLsbD_sshiftRight]
      simp [show j < 32 by omega, show j < 64 by omega, show ¬ 64 ≤ j by omega, show k + j < 64 by omega]
    rw [l1, l2]
  · simp [h8]
theorem bl_byte (x : Int64) (i : Nat) (hi : i < 8) : ∃ b : Nat, b < 256 ∧ (((x.toUInt64 >>> ((8 * nI i).toInt64.toUInt64 &&& Int64.toUInt64 63)).toInt64).toInt32) &&& 255 = nI b ∧ ((x >>> ((8 * nI i).toInt64 &&& 63)).toInt32) &&& 255 = nI b := by
  have e8 : 8 * nI i = nI (8 * i) := bn_mul2 i 8
  rw [e8, bl_cu (8 * i) (by omega), bl_c (8 * i) (by omega), bl_eq x (8 * i) (by omega)]
  obtain ⟨j, hj, e⟩ := pk_andE ((x >>> lN (8 * i)).toInt32) (m := 255) 8 (by decide)
  exact ⟨j, hj, e, e⟩
section FEED
variable {B : Nat} {A : Nat → List bk_E} {g : Nat → Nat} {st lf cd bg gv ob ol pb pn xp fh fl fa mk cb mi mb ml pa kb kl kc th pl md cr hc hg hi ib il it qi qc gc lc lr co ta yp ki le go la ps pd pt kw kh kf kz ky wh od tg tr so bd wo be : Nat → Int32} {px fr en ma wr : Int32}
theorem lk_look (h : bk_S B A g st ol th pl md cr lr gv ib il it qi qc ta wh od tg tr so bd fr en hc hg hi kc kb kl kw kh kf kz ky mk cb mb pb pn bg be ml xp fh fl fa mi yp ki le go la ps pd pt) {s b : Nat} (hs : s < 4) (hst : st s = 1) (hb : b < 256) (hB : B + 132 ≤ 100000000) :
    ∃ (A' : Nat → List bk_E) (g' : Nat → Nat) (px' : Int32) (st' : Nat → Int32) (lf' : Nat → Int32) (cd' : Nat → Int32) (bg' : Nat → Int32) (gv' : Nat → Int32) (ob' : Nat → Int32) (ol' : Nat → Int32) (pb' : Nat → Int32) (pn' : Nat → Int32) (xp' : Nat → Int32) (fh' : Nat → Int32) (fl' : Nat → Int32) (fa' : Nat → Int32) (mk' : Nat → Int32) (cb' : Nat → Int32) (mi' : Nat → Int32) (mb' : Nat → Int32) (ml' : Nat → Int32) (pa' : Nat → Int32) (kb' : Nat → Int32) (kl' : Nat → Int32) (kc' : Nat → Int32) (th' : Nat → Int32) (pl' : Nat → Int32) (md' : Nat → Int32) (cr' : Nat → Int32) (hc' : Nat → Int32) (hg' : Nat → Int32) (hi' : Nat → Int32) (ib' : Nat → Int32) (il' : Nat → Int32) (it' : Nat → Int32) (qi' : Nat → Int32) (qc' : Nat → Int32) (gc' : Nat → Int32) (lc' : Nat → Int32) (lr' : Nat → Int32) (co' : Nat → Int32) (fr' : Int32) (en' : Int32) (ma' : Int32) (wr' : Int32) (ta' : Nat → Int32) (yp' : Nat → Int32) (ki' : Nat → Int32) (le' : Nat → Int32) (go' : Nat → Int32) (la' : Nat → Int32) (ps' : Nat → Int32) (pd' : Nat → Int32) (pt' : Nat → Int32) (kw' : Nat → Int32) (kh' : Nat → Int32) (kf' : Nat → Int32) (kz' : Nat → Int32) (ky' : Nat → Int32) (wh' : Nat → Int32) (od' : Nat → Int32) (tg' : Nat → Int32) (tr' : Nat → Int32) (so' : Nat → Int32) (bd' : Nat → Int32) (wo' : Nat → Int32) (be' : Nat → Int32), bk_S (B + 132) A' g' st' ol' th' pl' md' cr' lr' gv' ib' il' it' qi' qc' ta' wh' od' tg' tr' so' bd' fr' en' hc' hg' hi' kc' kb' kl' kw' kh' kf' kz' ky' mk' cb' mb' pb' pn' bg' be' ml' xp' fh' fl' fa' mi' yp' ki' le' go' la' ps' pd' pt' ∧
      (∀ (post : Int32 → SX → Prop) (J39 : Int32 → Int32 → Int32 → (Nat → Int32) → (Nat → Int32) → (Nat → Int32) → (Nat → Int32) → (Nat → Int32) → (Nat → Int32) → (Nat → Int32) → (Nat → Int32) → (Nat → Int32) → (Nat → Int32) → (Nat → Int32) → (Nat → Int32) → (Nat → Int32) → (Nat → Int32) → (Nat → Int32) → (Nat → Int32) → (Nat → Int32) → (Nat → Int32) → (Nat → Int32) → (Nat → Int32) → (Nat → Int32) → (Nat → Int32) → (Nat → Int32) → (Nat → Int32) → (Nat → Int32) → (Nat → Int32) → (Nat → Int32) → (Nat → Int32) → (Nat → Int32) → (Nat → Int32) → (Nat → Int32) → (Nat → Int32) → (Nat → Int32) → (Nat → Int32) → (Nat → Int32) → (Nat → Int32) → (Nat → Int32) → (Nat → Int32) → Prop) (x2 : Int64) (x4 x5 x6 : Int32), wX_feed_135 post J39 (nI s) x2 x4 x5 x6 px' st' lf' cd' bg' gv' ob' ol' pb' pn' xp' fh' fl' fa' mk' cb' mi' mb' ml' pa' kb' kl' kc' th' pl' md' cr' hc' hg' hi' ib' il' it' qi' qc' gc' lc' lr' co' → wpX_readByte (fun r u => match u with | (px, st, lf, cd, bg, gv, ob, ol, pb, pn, xp, fh, fl, fa, mk, cb, mi, mb, ml, pa, kb, kl, kc, th, pl, md, cr, hc, hg, hi, ib, il, it, qi, qc, gc, lc, lr, co) => ((r = 16 → wpX_finishFrame (fun r u => match u with | (px, st, lf, cd, bg, gv, ob, ol, pb, pn, xp, fh, fl, fa, mk, cb, mi, mb, ml, pa, kb, kl, kc, th, pl, md, cr, hc, hg, hi, ib, il, it, qi, qc, gc, lc, lr, co) => wX_feed_93 post J39 (nI s) x2 x4 x5 x6 r px st lf cd bg gv ob ol pb pn xp fh fl fa mk cb mi mb ml pa kb kl kc th pl md cr hc hg hi ib il it qi qc gc lc lr co) (px, st, lf, cd, bg, gv, ob, ol, pb, pn, xp, fh, fl, fa, mk, cb, mi, mb, ml, pa, kb, kl, kc, th, pl, md, cr, hc, hg, hi, ib, il, it, qi, qc, gc, lc, lr, co) (nI s)) ∧ (¬ r = 16 → wX_feed_93 post J39 (nI s) x2 x4 x5 x6 r px st lf cd bg gv ob ol pb pn xp fh fl fa mk cb mi mb ml pa kb kl kc th pl md cr hc hg hi ib il it qi qc gc lc lr co))) (px, st, lf, cd, bg, gv, ob, ol, pb, pn, xp, fh, fl, fa, mk, cb, mi, mb, ml, pa, kb, kl, kc, th, pl, md, cr, hc, hg, hi, ib, il, it, qi, qc, gc, lc, lr, co) (nI s) (nI b)) ∧
      (∀ (post : SY → Prop), post (fr', en', ma', wr', st', lf', cd', ta', bg', kc', ob', ol', pb', pn', yp', ki', le', go', mk', cb', mb', ml', la', ps', pd', pt', kw', kh', kf', kz', ky', th', pl', md', cr', gc', lc', lr', wh', od', tg', tr', so', bd', wo', be') → wpY_look post (fr, en, ma, wr, st, lf, cd, ta, bg, kc, ob, ol, pb, pn, yp, ki, le, go, mk, cb, mb, ml, la, ps, pd, pt, kw, kh, kf, kz, ky, th, pl, md, cr, gc, lc, lr, wh, od, tg, tr, so, bd, wo, be) (nI s) (nI b)) := by
  obtain ⟨h0, hFA⟩ := h
  obtain ⟨z, hz, hml, F1⟩ := hFA s hs
  have hF : ∀ q, q < 4 → q ≠ s → bk_F ml xp fh fl fa mi yp ki le go la ps pd pt q := fun q hq _ => hFA q hq
  rcases F1 with ⟨p1, p2, hMi⟩ | ⟨b0, o, hb0, ho, hfh, hki, hla, hps, hk, ph⟩
  · rcases id hMi with ⟨q1, q2⟩ | ⟨q1, q2, q3⟩ | ⟨q1, q2, q3⟩
    · exact lk_look0 (mm := 0) h0 hs hF hst hb hz hml p1 p2 q1 (by omega) (by rw [q2]; rfl) hMi hB
    · exact lk_look0 (mm := 1) h0 hs hF hst hb hz hml p1 p2 q1 (by omega) (by rw [q2]; rfl) hMi hB
    · exact lk_look0 (mm := 2) h0 hs hF hst hb hz hml p1 p2 q1 (by omega) (by rw [q2]; rfl) hMi hB
  · subst ho
    rcases ph with ⟨p1, p2⟩ | ⟨p1, p2, p3⟩ | ⟨n, n2, n16, hfl, hle, ⟨p1, p2, a, ha, hfa, hyp, hgo⟩ | ⟨p1, p2, a, ha, hfa, hgo, p3⟩⟩
    · exact lk_look1 h0 hs hF hst hb hz hml hb0 hfh hki hla hps hk hB p1 p2
    · exact lk_look2 h0 hs hF hst hb hz hml hb0 hfh hki hla hps hk hB p1 p2 p3
    · exact lk_look3 h0 hs hF hst hb hz hml hb0 hfh hki hla hps hk hB p1 ha n16 hfl hle p2 hfa hyp hgo
    · exact lk_look4 h0 hs hF hst hb hz hml hb0 hfh hki hla hps hk hB p1 p2 ha n16 hfl hle p3 n2 hfa hgo
end FEED
theorem lk_feed {s n : Nat} (hs : s < 4) (hn : n ≤ 8) (a1 : Int64) : ∀ (N : Nat) {B : Nat} {A : Nat → List bk_E} {g : Nat → Nat} {px : Int32} {st : Nat → Int32} {lf : Nat → Int32} {cd : Nat → Int32} {bg : Nat → Int32} {gv : Nat → Int32} {ob : Nat → Int32} {ol : Nat → Int32} {pb : Nat → Int32} {pn : Nat → Int32} {xp : Nat → Int32} {fh : Nat → Int32} {fl : Nat → Int32} {fa : Nat → Int32} {mk : Nat → Int32} {cb : Nat → Int32} {mi : Nat → Int32} {mb : Nat → Int32} {ml : Nat → Int32} {pa : Nat → Int32} {kb : Nat → Int32} {kl : Nat → Int32} {kc : Nat → Int32} {th : Nat → Int32} {pl : Nat → Int32} {md : Nat → Int32} {cr : Nat → Int32} {hc : Nat → Int32} {hg : Nat → Int32} {hi : Nat → Int32} {ib : Nat → Int32} {il : Nat → Int32} {it : Nat → Int32} {qi : Nat → Int32} {qc : Nat → Int32} {gc : Nat → Int32} {lc : Nat → Int32} {lr : Nat → Int32} {co : Nat → Int32} {fr : Int32} {en : Int32} {ma : Int32} {wr : Int32} {ta : Nat → Int32} {yp : Nat → Int32} {ki : Nat → Int32} {le : Nat → Int32} {go : Nat → Int32} {la : Nat → Int32} {ps : Nat → Int32} {pd : Nat → Int32} {pt : Nat → Int32} {kw : Nat → Int32} {kh : Nat → Int32} {kf : Nat → Int32} {kz : Nat → Int32} {ky : Nat → Int32} {wh : Nat → Int32} {od : Nat → Int32} {tg : Nat → Int32} {tr : Nat → Int32} {so : Nat → Int32} {bd : Nat → Int32} {wo : Nat → Int32} {be : Nat → Int32}, N ≤ n → bk_S B A g st ol th pl md cr lr gv ib il it qi qc ta wh od tg tr so bd fr en hc hg hi kc kb kl kw kh kf kz ky mk cb mb pb pn bg be ml xp fh fl fa mi yp ki le go la ps pd pt → B + 156 * N ≤ 100000000 →
    ∃ r : Int32, ∃ (A' : Nat → List bk_E) (g' : Nat → Nat) (px' : Int32) (st' : Nat → Int32) (lf' : Nat → Int32) (cd' : Nat → Int32) (bg' : Nat → Int32) (gv' : Nat → Int32) (ob' : Nat → Int32) (ol' : Nat → Int32) (pb' : Nat → Int32) (pn' : Nat → Int32) (xp' : Nat → Int32) (fh' : Nat → Int32) (fl' : Nat → Int32) (fa' : Nat → Int32) (mk' : Nat → Int32) (cb' : Nat → Int32) (mi' : Nat → Int32) (mb' : Nat → Int32) (ml' : Nat → Int32) (pa' : Nat → Int32) (kb' : Nat → Int32) (kl' : Nat → Int32) (kc' : Nat → Int32) (th' : Nat → Int32) (pl' : Nat → Int32) (md' : Nat → Int32) (cr' : Nat → Int32) (hc' : Nat → Int32) (hg' : Nat → Int32) (hi' : Nat → Int32) (ib' : Nat → Int32) (il' : Nat → Int32) (it' : Nat → Int32) (qi' : Nat → Int32) (qc' : Nat → Int32) (gc' : Nat → Int32) (lc' : Nat → Int32) (lr' : Nat → Int32) (co' : Nat → Int32) (fr' : Int32) (en' : Int32) (ma' : Int32) (wr' : Int32) (ta' : Nat → Int32) (yp' : Nat → Int32) (ki' : Nat → Int32) (le' : Nat → Int32) (go' : Nat → Int32) (la' : Nat → Int32) (ps' : Nat → Int32) (pd' : Nat → Int32) (pt' : Nat → Int32) (kw' : Nat → Int32) (kh' : Nat → Int32) (kf' : Nat → Int32) (kz' : Nat → Int32) (ky' : Nat → Int32) (wh' : Nat → Int32) (od' : Nat → Int32) (tg' : Nat → Int32) (tr' : Nat → Int32) (so' : Nat → Int32) (bd' : Nat → Int32) (wo' : Nat → Int32) (be' : Nat → Int32), bk_S (B + 156 * N) A' g' st' ol' th' pl' md' cr' lr' gv' ib' il' it' qi' qc' ta' wh' od' tg' tr' so' bd' fr' en' hc' hg' hi' kc' kb' kl' kw' kh' kf' kz' ky' mk' cb' mb' pb' pn' bg' be' ml' xp' fh' fl' fa' mi' yp' ki' le' go' la' ps' pd' pt' ∧
      (∀ (post : Int32 → SX → Prop) (f : Nat), N < f → post r (px', st', lf', cd', bg', gv', ob', ol', pb', pn', xp', fh', fl', fa', mk', cb', mi', mb', ml', pa', kb', kl', kc', th', pl', md', cr', hc', hg', hi', ib', il', it', qi', qc', gc', lc', lr', co') → wX_feed_39 post (nI s) a1 (nI n) f (nI (n - N)) (nI (n - N)) px st lf cd bg gv ob ol pb pn xp fh fl fa mk cb mi mb ml pa kb kl kc th pl md cr hc hg hi ib il it qi qc gc lc lr co) ∧
      (∀ (post : Int32 → SY → Prop) (f : Nat), N < f → post r (fr', en', ma', wr', st', lf', cd', ta', bg', kc', ob', ol', pb', pn', yp', ki', le', go', mk', cb', mb', ml', la', ps', pd', pt', kw', kh', kf', kz', ky', th', pl', md', cr', gc', lc', lr', wh', od', tg', tr', so', bd', wo', be') → wY_feed_35 post (nI s) a1 (nI n) f (nI (n - N)) fr en ma wr st lf cd ta bg kc ob ol pb pn yp ki le go mk cb mb ml la ps pd pt kw kh kf kz ky th pl md cr gc lc lr wh od tg tr so bd wo be) := by
  have cs : (nI s).toNatClampNeg = s := nI_clamp (by omega)
  have i4 : vp_in (nI s) 4 := pk_in s 4 hs
  intro N
  induction N with
  | zero =>
    intro B A g px st lf cd bg gv ob ol pb pn xp fh fl fa mk cb mi mb ml pa kb kl kc th pl md cr hc hg hi ib il it qi qc gc lc lr co fr en ma wr ta yp ki le go la ps pd pt kw kh kf kz ky wh od tg tr so bd wo be _ h hB
    refine ⟨nI (n - 0), A, g, px, st, lf, cd, bg, gv, ob, ol, pb, pn, xp, fh, fl, fa, mk, cb, mi, mb, ml, pa, kb, kl, kc, th, pl, md, cr, hc, hg, hi, ib, il, it, qi, qc, gc, lc, lr, co, fr, en, ma, wr, ta, yp, ki, le, go, la, ps, pd, pt, kw, kh, kf, kz, ky, wh, od, tg, tr, so, bd, wo, be, h, ?_, ?_⟩
    · intro post f hf hp
      obtain ⟨f, rfl⟩ : ∃ f', f = f' + 1 := ⟨f - 1, by omega⟩
      exact br_t (nI_le (by omega) (by omega)) hp
    · intro post f hf hp
      obtain ⟨f, rfl⟩ : ∃ f', f = f' + 1 := ⟨f - 1, by omega⟩
      exact br_t (nI_le (by omega) (by omega)) hp
  | succ N ih =>
    intro B A g px st lf cd bg gv ob ol pb pn xp fh fl fa mk cb mi mb ml pa kb kl kc th pl md cr hc hg hi ib il it qi qc gc lc lr co fr en ma wr ta yp ki le go la ps pd pt kw kh kf kz ky wh od tg tr so bd wo be hN h hB
    have nk : ¬ nI n ≤ nI (n - (N + 1)) := nI_ge (by omega) (by omega)
    have ek : n - N = n - (N + 1) + 1 := by omega
    obtain ⟨b, hb, eX, eY⟩ := bl_byte a1 (n - (N + 1)) (by omega)
    by_cases o : st s = 1
    rotate_left
    · refine ⟨nI (n - (N + 1)), A, g, px, st, lf, cd, bg, gv, ob, ol, pb, pn, xp, fh, fl, fa, mk, cb, mi, mb, ml, pa, kb, kl, kc, th, pl, md, cr, hc, hg, hi, ib, il, it, qi, qc, gc, lc, lr, co, fr, en, ma, wr, ta, yp, ki, le, go, la, ps, pd, pt, kw, kh, kf, kz, ky, wh, od, tg, tr, so, bd, wo, be, bk_S_mono h (by omega), ?_, ?_⟩
      · intro post f hf hp
        obtain ⟨f, rfl⟩ : ∃ f', f = f' + 1 := ⟨f - 1, by omega⟩
        refine br_f nk ⟨i4, ?_⟩
        rw [cs]
        exact br_f o hp
      · intro post f hf hp
        obtain ⟨f, rfl⟩ : ∃ f', f = f' + 1 := ⟨f - 1, by omega⟩
        refine br_f nk ⟨i4, ?_⟩
        rw [cs]
        exact br_f o hp
    · obtain ⟨A', g', px', st', lf', cd', bg', gv', ob', ol', pb', pn', xp', fh', fl', fa', mk', cb', mi', mb', ml', pa', kb', kl', kc', th', pl', md', cr', hc', hg', hi', ib', il', it', qi', qc', gc', lc', lr', co', fr', en', ma', wr', ta', yp', ki', le', go', la', ps', pd', pt', kw', kh', kf', kz', ky', wh', od', tg', tr', so', bd', wo', be', h1, x1, y1⟩ := lk_look (px := px) (st := st) (lf := lf) (cd := cd) (bg := bg) (gv := gv) (ob := ob) (ol := ol) (pb := pb) (pn := pn) (xp := xp) (fh := fh) (fl := fl) (fa := fa) (mk := mk) (cb := cb) (mi := mi) (mb := mb) (ml := ml) (pa := pa) (kb := kb) (kl := kl) (kc := kc) (th := th) (pl := pl) (md := md) (cr := cr) (hc := hc) (hg := hg) (hi := hi) (ib := ib) (il := il) (it := it) (qi := qi) (qc := qc) (gc := gc) (lc := lc) (lr := lr) (co := co) (fr := fr) (en := en) (ma := ma) (wr := wr) (ta := ta) (yp := yp) (ki := ki) (le := le) (go := go) (la := la) (ps := ps) (pd := pd) (pt := pt) (kw := kw) (kh := kh) (kf := kf) (kz := kz) (ky := ky) (wh := wh) (od := od) (tg := tg) (tr := tr) (so := so) (bd := bd) (wo := wo) (be := be) h hs o hb (by omega)
      obtain ⟨d, h2, _, x2, y2⟩ := lk_S_give (ob := ob') (gc := gc') (lc := lc') h1 (by omega)
      obtain ⟨r, hh⟩ := ih (B := B + 132 + 24) (lf := lf') (cd := cd') (ob := zz_ob d) (gc := zz_gc d) (lc := zz_lc d) (px := px') (pa := pa') (co := co') (wo := wo') (ma := ma') (wr := wr') (by omega) h2 (by omega)
      obtain ⟨A2, g2, px2, st2, lf2, cd2, bg2, gv2, ob2, ol2, pb2, pn2, xp2, fh2, fl2, fa2, mk2, cb2, mi2, mb2, ml2, pa2, kb2, kl2, kc2, th2, pl2, md2, cr2, hc2, hg2, hi2, ib2, il2, it2, qi2, qc2, gc2, lc2, lr2, co2, fr2, en2, ma2, wr2, ta2, yp2, ki2, le2, go2, la2, ps2, pd2, pt2, kw2, kh2, kf2, kz2, ky2, wh2, od2, tg2, tr2, so2, bd2, wo2, be2, h3, x3, y3⟩ := hh
      rw [ek] at x3 y3
      refine ⟨r, A2, g2, px2, st2, lf2, cd2, bg2, gv2, ob2, ol2, pb2, pn2, xp2, fh2, fl2, fa2, mk2, cb2, mi2, mb2, ml2, pa2, kb2, kl2, kc2, th2, pl2, md2, cr2, hc2, hg2, hi2, ib2, il2, it2, qi2, qc2, gc2, lc2, lr2, co2, fr2, en2, ma2, wr2, ta2, yp2, ki2, le2, go2, la2, ps2, pd2, pt2, kw2, kh2, kf2, kz2, ky2, wh2, od2, tg2, tr2, so2, bd2, wo2, be2, bk_S_mono h3 (by omega), ?_, ?_⟩
      · intro post f hf hp
        obtain ⟨f, rfl⟩ : ∃ f', f = f' + 1 := ⟨f - 1, by omega⟩
        refine br_f nk ⟨i4, ?_⟩
        rw [cs]
        refine br_t o (nm_r eX (x1 post (wX_feed_39 post (nI s) a1 (nI n) f) a1 (nI n) _ _ ?_))
        exact x2 _ (nm_r (nI_1 _) (nm_r (nI_1 _) (x3 post f (by omega) hp)))
      · intro post f hf hp
        obtain ⟨f, rfl⟩ : ∃ f', f = f' + 1 := ⟨f - 1, by omega⟩
        refine br_f nk ⟨i4, ?_⟩
        rw [cs]
        refine br_t o (nm_r eY (nm_r (nI_1 _) (y1 _ ?_)))
        exact y2 _ (y3 post f (by omega) hp)
