/-! frames that are done -/
section CTRL
variable {B : Nat} {A : Nat → List bk_E} {g : Nat → Nat} {st lf cd bg gv ob ol pb pn xp fh fl fa mk cb mi mb ml pa kb kl kc th pl md cr hc hg hi ib il it qi qc gc lc lr co ta yp ki le go la ps pd pt kw kh kf kz ky wh od tg tr so bd wo be : Nat → Int32} {px fr en ma wr : Int32}
theorem xk_an26 {post : SX → Prop} {s a n : Nat} (hs : s < 4) (ha : a + n ≤ 240) (hn : n ≤ 16) (hp : post (px, st, lf, cd, bg, gv, bk_wf ob s a (fun j => cb (16 * s + j)) n, upd ol s (nI (a + n)), pb, pn, xp, fh, fl, fa, mk, cb, mi, mb, ml, pa, kb, kl, kc, th, pl, md, cr, hc, hg, hi, ib, il, it, qi, qc, gc, lc, lr, co)) :
    ∀ f k : Nat, k ≤ n → n - k < f → wX_answerControl_26 post (nI s) (nI n) f (nI k) px st lf cd bg gv (bk_wf ob s a (fun j => cb (16 * s + j)) k) (upd ol s (nI (a + k))) pb pn xp fh fl fa mk cb mi mb ml pa kb kl kc th pl md cr hc hg hi ib il it qi qc gc lc lr co
  | 0, k, h1, h2 => by omega
  | f + 1, k, h1, h2 => by
    have e1 : nI s * 16 + nI k = nI (16 * s + k) := by rw [bn_mul, nI_add, Nat.mul_comm]
    have c1 : (nI (16 * s + k)).toNatClampNeg = 16 * s + k := nI_clamp (by omega)
    refine pk_le n k (fun g => ?_) (fun g => ?_)
    · have : k = n := by omega
      subst this
      exact hp
    · rw [e1, c1]
      refine ⟨vp_in_nI (by omega) (by omega), xk_put hs pk_us (by omega) (nm_r (nI_1 k) ?_)⟩
      rw [bk_uu]
      exact xk_an26 hs ha hn hp f (k + 1) (by omega) (by omega)
theorem xk_answer {post : SX → Prop} {s a n : Nat} {k : Int32} (hs : s < 4) (ha : ol s = nI a) (ha2 : a ≤ 240) (hn : n ≤ 16) (hfl : fl s = nI n)
    (h1 : a + 2 + n ≤ 240 → post (px, st, lf, cd, bg, gv, bk_wf (upd (upd ob (240 * s + a) (128 + k)) (240 * s + (a + 1)) (nI n)) s (a + 2) (fun j => cb (16 * s + j)) n, upd ol s (nI (a + 2 + n)), pb, pn, xp, fh, fl, fa, mk, cb, mi, mb, ml, pa, kb, kl, kc, th, pl, md, cr, hc, hg, hi, ib, il, it, qi, qc, gc, lc, lr, co)) (h0 : 240 < a + 2 + n → post (px, st, lf, cd, bg, gv, ob, ol, pb, pn, xp, fh, fl, fa, mk, cb, mi, mb, ml, pa, kb, kl, kc, th, pl, md, cr, hc, hg, hi, ib, il, it, qi, qc, gc, lc, lr, co)) : wpX_answerControl post (px, st, lf, cd, bg, gv, ob, ol, pb, pn, xp, fh, fl, fa, mk, cb, mi, mb, ml, pa, kb, kl, kc, th, pl, md, cr, hc, hg, hi, ib, il, it, qi, qc, gc, lc, lr, co) (nI s) k := by
  have cs : (nI s).toNatClampNeg = s := nI_clamp (by omega)
  refine ⟨pk_in s 4 hs, ?_⟩
  rw [cs, hfl]
  refine nm_e (xk_hasRoom hs ha ha2 (by omega) (fun g => br_f (by decide) ?_) (fun g => br_t rfl (h0 g)))
  refine xk_startFrame hs ha (by omega) ⟨n + 1, ?_⟩
  have w := xk_an26 (post := post) (s := s) (a := a + 2) (n := n) (ob := upd (upd ob (240 * s + a) (128 + k)) (240 * s + (a + 1)) (nI n)) (ol := upd ol s (nI (a + 2))) hs (by omega) hn (by rw [bk_uu]; exact h1 g) (n + 1) 0 (by omega) (by omega)
  rw [bk_uu] at w
  exact w
theorem yk_d22 {post : SY → Prop} {s n : Nat} {x2 : Int32} (hs : s < 4) (hn : n ≤ 16) (hle : le s = nI n)
    (hend : ∀ f, wY_done_22 post (nI s) x2 fr en ma wr (f + 1) (nI n) st lf cd ta bg kc ob ol pb pn yp ki le go mk cb mb ml la ps pd pt kw kh kf kz ky th pl md cr gc lc lr wh od tg tr so bd (bk_mv wo 0 (fun j => cb (16 * s + j)) n) be) :
    ∀ f k : Nat, k ≤ n → n - k < f → wY_done_22 post (nI s) x2 fr en ma wr f (nI k) st lf cd ta bg kc ob ol pb pn yp ki le go mk cb mb ml la ps pd pt kw kh kf kz ky th pl md cr gc lc lr wh od tg tr so bd (bk_mv wo 0 (fun j => cb (16 * s + j)) k) be
  | 0, k, h1, h2 => by omega
  | f + 1, k, h1, h2 => by
    by_cases e : k = n
    · subst e; exact hend f
    · have cs : (nI s).toNatClampNeg = s := nI_clamp (by omega)
      have ck : (nI k).toNatClampNeg = k := nI_clamp (by omega)
      have e1 : 16 * nI s + nI k = nI (16 * s + k) := by rw [bn_mul2, nI_add]
      have c1 : (nI (16 * s + k)).toNatClampNeg = 16 * s + k := nI_clamp (by omega)
      have ih := yk_d22 hs hn hle hend f (k + 1) (by omega) (by omega)
      rw [bk_mv, Nat.zero_add] at ih
      refine ⟨pk_in s 4 hs, ?_⟩
      rw [cs, hle, e1, c1, ck]
      exact br_f (nI_ge (by omega) (by omega)) ⟨vp_in_nI (by omega) (by omega), vp_in_nI (by omega) (by omega), nm_e (nm_r (nI_1 k) ih)⟩
theorem lk_done (h : bk_S0 B A g st ol th pl md cr lr gv ib il it qi qc ta wh od tg tr so bd fr en hc hg hi kc kb kl kw kh kf kz ky mk cb mb pb pn bg be) {s n z b : Nat} (hs : s < 4) (hF : ∀ z, z < 4 → z ≠ s → bk_F ml xp fh fl fa mi yp ki le go la ps pd pt z) (hst : st s = 1) (hz : z ≤ 200) (hml : ml s = nI z) (hb : b < 256) (hfh : fh s = nI b) (hki : ki s = nI (b % 16)) (hla : la s = (if b < 128 then 0 else 1)) (hps : ps s = (if b / 64 % 2 = 0 then 0 else 1))
    (hk : (b % 16 = 1 ∧ pt s = 0 ∧ mi s = (if b / 64 % 2 = 0 then 1 else 2)) ∨ (b % 16 = 0 ∧ pt s = 1 ∧ bk_Mi mi pt pd s) ∨ (8 ≤ b % 16 ∧ b % 16 ≤ 10 ∧ 128 ≤ b ∧ bk_Mi mi pt pd s))
    (hn : 8 ≤ b % 16 → n ≤ 16) (hfl : fl s = nI n) (hle : le s = nI n) (hB : B + 132 ≤ 100000000) :
    ∃ (A' : Nat → List bk_E) (g' : Nat → Nat) (px' : Int32) (st' : Nat → Int32) (lf' : Nat → Int32) (cd' : Nat → Int32) (bg' : Nat → Int32) (gv' : Nat → Int32) (ob' : Nat → Int32) (ol' : Nat → Int32) (pb' : Nat → Int32) (pn' : Nat → Int32) (xp' : Nat → Int32) (fh' : Nat → Int32) (fl' : Nat → Int32) (fa' : Nat → Int32) (mk' : Nat → Int32) (cb' : Nat → Int32) (mi' : Nat → Int32) (mb' : Nat → Int32) (ml' : Nat → Int32) (pa' : Nat → Int32) (kb' : Nat → Int32) (kl' : Nat → Int32) (kc' : Nat → Int32) (th' : Nat → Int32) (pl' : Nat → Int32) (md' : Nat → Int32) (cr' : Nat → Int32) (hc' : Nat → Int32) (hg' : Nat → Int32) (hi' : Nat → Int32) (ib' : Nat → Int32) (il' : Nat → Int32) (it' : Nat → Int32) (qi' : Nat → Int32) (qc' : Nat → Int32) (gc' : Nat → Int32) (lc' : Nat → Int32) (lr' : Nat → Int32) (co' : Nat → Int32) (fr' : Int32) (en' : Int32) (ma' : Int32) (wr' : Int32) (ta' : Nat → Int32) (yp' : Nat → Int32) (ki' : Nat → Int32) (le' : Nat → Int32) (go' : Nat → Int32) (la' : Nat → Int32) (ps' : Nat → Int32) (pd' : Nat → Int32) (pt' : Nat → Int32) (kw' : Nat → Int32) (kh' : Nat → Int32) (kf' : Nat → Int32) (kz' : Nat → Int32) (ky' : Nat → Int32) (wh' : Nat → Int32) (od' : Nat → Int32) (tg' : Nat → Int32) (tr' : Nat → Int32) (so' : Nat → Int32) (bd' : Nat → Int32) (wo' : Nat → Int32) (be' : Nat → Int32), bk_S (B + 132) A' g' st' ol' th' pl' md' cr' lr' gv' ib' il' it' qi' qc' ta' wh' od' tg' tr' so' bd' fr' en' hc' hg' hi' kc' kb' kl' kw' kh' kf' kz' ky' mk' cb' mb' pb' pn' bg' be' ml' xp' fh' fl' fa' mi' yp' ki' le' go' la' ps' pd' pt' ∧
      (∀ (post : Int32 → SX → Prop) (J39 : Int32 → Int32 → Int32 → (Nat → Int32) → (Nat → Int32) → (Nat → Int32) → (Nat → Int32) → (Nat → Int32) → (Nat → Int32) → (Nat → Int32) → (Nat → Int32) → (Nat → Int32) → (Nat → Int32) → (Nat → Int32) → (Nat → Int32) → (Nat → Int32) → (Nat → Int32) → (Nat → Int32) → (Nat → Int32) → (Nat → Int32) → (Nat → Int32) → (Nat → Int32) → (Nat → Int32) → (Nat → Int32) → (Nat → Int32) → (Nat → Int32) → (Nat → Int32) → (Nat → Int32) → (Nat → Int32) → (Nat → Int32) → (Nat → Int32) → (Nat → Int32) → (Nat → Int32) → (Nat → Int32) → (Nat → Int32) → (Nat → Int32) → (Nat → Int32) → (Nat → Int32) → (Nat → Int32) → (Nat → Int32) → (Nat → Int32) → Prop) (x2 : Int64) (x4 x5 x6 : Int32), wX_feed_135 post J39 (nI s) x2 x4 x5 x6 px' st' lf' cd' bg' gv' ob' ol' pb' pn' xp' fh' fl' fa' mk' cb' mi' mb' ml' pa' kb' kl' kc' th' pl' md' cr' hc' hg' hi' ib' il' it' qi' qc' gc' lc' lr' co' → wpX_finishFrame (fun r u => match u with | (px, st, lf, cd, bg, gv, ob, ol, pb, pn, xp, fh, fl, fa, mk, cb, mi, mb, ml, pa, kb, kl, kc, th, pl, md, cr, hc, hg, hi, ib, il, it, qi, qc, gc, lc, lr, co) => wX_feed_93 post J39 (nI s) x2 x4 x5 x6 r px st lf cd bg gv ob ol pb pn xp fh fl fa mk cb mi mb ml pa kb kl kc th pl md cr hc hg hi ib il it qi qc gc lc lr co) (px, st, lf, cd, bg, gv, ob, ol, pb, pn, xp, fh, fl, fa, mk, cb, mi, mb, ml, pa, kb, kl, kc, th, pl, md, cr, hc, hg, hi, ib, il, it, qi, qc, gc, lc, lr, co) (nI s)) ∧
      (∀ (post : SY → Prop), post (fr', en', ma', wr', st', lf', cd', ta', bg', kc', ob', ol', pb', pn', yp', ki', le', go', mk', cb', mb', ml', la', ps', pd', pt', kw', kh', kf', kz', ky', th', pl', md', cr', gc', lc', lr', wh', od', tg', tr', so', bd', wo', be') → wpY_done post (fr, en, ma, wr, st, lf, cd, ta, bg, kc, ob, ol, pb, pn, yp, ki, le, go, mk, cb, mb, ml, la, ps, pd, pt, kw, kh, kf, kz, ky, th, pl, md, cr, gc, lc, lr, wh, od, tg, tr, so, bd, wo, be) (nI s)) := by
  have cs : (nI s).toNatClampNeg = s := nI_clamp (by omega)
  have i4 : vp_in (nI s) 4 := pk_in s 4 hs
  have e15 := bn_15 b (by omega)
  have e128 := bn_128 b hb
  by_cases ctl : 8 ≤ b % 16
  · have hn16 := hn ctl
    have mi0 : b % 16 ≤ 10 ∧ bk_Mi mi pt pd s := by
      rcases hk with k | k | k
      · omega
      · omega
      · exact ⟨k.2.1, k.2.2.2⟩
    obtain ⟨hb10, hMi⟩ := mi0
    obtain ⟨h1, h2, h3, h4, h5, h6, h7, h8⟩ := id h
    obtain ⟨_, _, _, ⟨a, ha, ea⟩, _⟩ := h1.2.2.2.1 s hs
    have hF0 : ∀ q, q < 4 → bk_F ml (upd xp s 0) fh fl fa mi (upd yp s 0) ki le go la ps pd pt q := by
      intro q hq
      by_cases e : q = s
      · subst e; exact ⟨z, hz, hml, Or.inl ⟨pk_us, pk_us, hMi⟩⟩
      · exact bk_F_of (hF q hq e) rfl (pk_un e) rfl rfl rfl rfl (pk_un e) rfl rfl rfl rfl rfl rfl rfl
    -- Y's way behind the copying
    have yw : ∀ (post : SY → Prop), (((nI (b % 16) = 9 → (vp_in (nI s) 4 ∧ (wpY_write (fun u => match u with | (fr, en, ma, wr, st, lf, cd, ta, bg, kc, ob, ol, pb, pn, yp, ki, le, go, mk, cb, mb, ml, la, ps, pd, pt, kw, kh, kf, kz, ky, th, pl, md, cr, gc, lc, lr, wh, od, tg, tr, so, bd, wo, be) => (wY_done_74 post (nI s) (nI (b % 16)) fr en ma wr st lf cd ta bg kc ob ol pb pn yp ki le go mk cb mb ml la ps pd pt kw kh kf kz ky th pl md cr gc lc lr wh od tg tr so bd wo be)) (fr, en, ma, wr, st, lf, cd, ta, bg, kc, ob, ol, pb, pn, upd yp s 0, ki, le, go, mk, cb, mb, ml, la, ps, pd, pt, kw, kh, kf, kz, ky, th, pl, md, cr, gc, lc, lr, wh, od, tg, tr, so, bd, bk_mv wo 0 (fun j => cb (16 * s + j)) n, be) (nI s) 10 (nI n)))) ∧ (¬ nI (b % 16) = 9 → (wY_done_74 post (nI s) (nI (b % 16)) fr en ma wr st lf cd ta bg kc ob ol pb pn (upd yp s 0) ki le go mk cb mb ml la ps pd pt kw kh kf kz ky th pl md cr gc lc lr wh od tg tr so bd (bk_mv wo 0 (fun j => cb (16 * s + j)) n) be)))) → wpY_done post (fr, en, ma, wr, st, lf, cd, ta, bg, kc, ob, ol, pb, pn, yp, ki, le, go, mk, cb, mb, ml, la, ps, pd, pt, kw, kh, kf, kz, ky, th, pl, md, cr, gc, lc, lr, wh, od, tg, tr, so, bd, wo, be) (nI s) := by
      intro post hp
      refine ⟨i4, ?_⟩
      rw [cs, hki]
      refine nm_e ⟨i4, nm_e (br_f (nI_ge (a := 7) (by omega) (by omega)) ⟨n + 1, ?_⟩)⟩
      refine yk_d22 (yp := upd yp s 0) hs hn16 hle (fun f => ⟨i4, ?_⟩) (n + 1) 0 (by omega) (by omega)
      rw [cs, hle]
      exact br_t (nI_le (Nat.le_refl _) (by omega)) hp
    have xw : ∀ (post : Int32 → SX → Prop), (b % 16 = 8 → wpX_answerControl (fun u => match u with | (px, st, lf, cd, bg, gv, ob, ol, pb, pn, xp, fh, fl, fa, mk, cb, mi, mb, ml, pa, kb, kl, kc, th, pl, md, cr, hc, hg, hi, ib, il, it, qi, qc, gc, lc, lr, co) => post 18 (px, st, lf, cd, bg, gv, ob, ol, pb, pn, xp, fh, fl, fa, mk, cb, mi, mb, ml, pa, kb, kl, kc, th, pl, md, cr, hc, hg, hi, ib, il, it, qi, qc, gc, lc, lr, co)) (px, st, lf, cd, bg, gv, ob, ol, pb, pn, upd xp s 0, fh, fl, fa, mk, cb, mi, mb, ml, pa, kb, kl, kc, th, pl, md, cr, hc, hg, hi, ib, il, it, qi, qc, gc, lc, lr, co) (nI s) 8) → (b % 16 = 9 → wpX_answerControl (fun u => match u with | (px, st, lf, cd, bg, gv, ob, ol, pb, pn, xp, fh, fl, fa, mk, cb, mi, mb, ml, pa, kb, kl, kc, th, pl, md, cr, hc, hg, hi, ib, il, it, qi, qc, gc, lc, lr, co) => post 0 (px, st, lf, cd, bg, gv, ob, ol, pb, pn, xp, fh, fl, fa, mk, cb, mi, mb, ml, pa, kb, kl, kc, th, pl, md, cr, hc, hg, hi, ib, il, it, qi, qc, gc, lc, lr, co)) (px, st, lf, cd, bg, gv, ob, ol, pb, pn, upd xp s 0, fh, fl, fa, mk, cb, mi, mb, ml, pa, kb, kl, kc, th, pl, md, cr, hc, hg, hi, ib, il, it, qi, qc, gc, lc, lr, co) (nI s) 10) → (b % 16 = 10 → post 0 (px, st, lf, cd, bg, gv, ob, ol, pb, pn, upd xp s 0, fh, fl, fa, mk, cb, mi, mb, ml, pa, kb, kl, kc, th, pl, md, cr, hc, hg, hi, ib, il, it, qi, qc, gc, lc, lr, co)) → wpX_finishFrame post (px, st, lf, cd, bg, gv, ob, ol, pb, pn, xp, fh, fl, fa, mk, cb, mi, mb, ml, pa, kb, kl, kc, th, pl, md, cr, hc, hg, hi, ib, il, it, qi, qc, gc, lc, lr, co) (nI s) := by
      intro post g8 g9 g10
      refine ⟨i4, ?_⟩
      rw [cs, hfh]
      refine nm_e ⟨i4, nm_e (nm_r e15 (br_f (nI_nlt (b := 8) (by omega) (by omega)) (br_f (nI_nlt (a := 10) (by omega) (by omega)) ?_)))⟩
      exact pk_eq (b % 16) 8 g8 (fun e => pk_eq (b % 16) 9 g9 (fun e2 => pk_eq (b % 16) 10 g10 (fun e3 => by omega)))
    have wfc : ∀ (o' : Nat → Int32), bk_wf o' s (a + 2) (bk_mv wo 0 (fun j => cb (16 * s + j)) n) n = bk_wf o' s (a + 2) (fun j => cb (16 * s + j)) n := fun o' => bk_wf_congr o' s (a + 2) _ _ n (fun j hj => by
      have := bk_mv_i wo 0 (fun j => cb (16 * s + j)) n j hj
      rw [Nat.zero_add] at this
      exact this)
    by_cases c8 : b % 16 = 8
    · -- it closes
      by_cases room : a + 2 + n ≤ 240
      · have hS0 : bk_S0 B A g st (upd ol s (nI (a + 2 + n))) th pl md cr lr gv ib il it qi qc ta wh od tg tr so bd fr en hc hg hi kc kb kl kw kh kf kz ky mk cb mb pb pn bg be := ⟨dk_ol h1 (by omega), h2, h3, h4, h5, h6, h7, h8⟩
        obtain ⟨d, hS, _, xf, yf⟩ := lk_S_ends (ob := bk_wf (upd (upd ob (240 * s + a) (128 + 8)) (240 * s + (a + 1)) (nI n)) s (a + 2) (fun j => cb (16 * s + j)) n) (gc := gc) (lc := lc) (xp := upd xp s 0) (yp := upd yp s 0) hS0 hs (fun q hq e => hF0 q hq) (by omega)
        rw [bk_uu, bk_uu] at hS
        refine ⟨zz_A d, zz_g d, px, upd st s (nI 2), lf, cd, upd bg s 0, zz_gv d, zz_ob d, zz_ol d, pb, pn, upd xp s 0, fh, fl, fa, mk, cb, upd mi s 0, mb, upd ml s 0, pa, kb, kl, upd kc s 0, zz_th d, pl, md, cr, zz_hc d, zz_hg d, zz_hi d, zz_ib d, zz_il d, zz_it d, zz_qi d, zz_qc d, zz_gc d, zz_lc d, zz_lr d, co, zz_fr d, zz_en d, ma, wr, zz_ta d, upd yp s 0, ki, le, go, la, ps, pd, upd pt s 0, kw, kh, kf, kz, ky, zz_wh d, zz_od d, zz_tg d, zz_tr d, zz_so d, zz_bd d, bk_mv wo 0 (fun j => cb (16 * s + j)) n, be, bk_S_mono hS (by omega), ?_, ?_⟩
        · intro post J39 x2 x4 x5 x6 hp
          refine xw _ (fun _ => xk_answer hs ea ha hn16 hfl (fun _ => br_f (by decide) (br_t rfl (xf _ ?_))) (fun q => by omega)) (fun q => by omega) (fun q => by omega)
          rw [bk_uu]
          exact hp
        · intro post hp
          refine yw post (br_f (fun q => by have := (nI_eq (a := b % 16) (b := 9) (by omega) (by omega)).mp q; omega) (br_t (by rw [c8]; rfl) ⟨i4, ?_⟩))
          rw [cs, hle]
          refine yk_write hs ea ha (by omega) (fun _ => ?_) (fun q => by omega)
          rw [wfc]
          refine yf _ ?_
          rw [bk_uu]
          exact hp
      · obtain ⟨d, hS, _, xf, yf⟩ := lk_S_ends (ob := ob) (gc := gc) (lc := lc) (xp := upd xp s 0) (yp := upd yp s 0) h hs (fun q hq e => hF0 q hq) (by omega)
        rw [bk_uu, bk_uu] at hS
        refine ⟨zz_A d, zz_g d, px, upd st s (nI 2), lf, cd, upd bg s 0, zz_gv d, zz_ob d, zz_ol d, pb, pn, upd xp s 0, fh, fl, fa, mk, cb, upd mi s 0, mb, upd ml s 0, pa, kb, kl, upd kc s 0, zz_th d, pl, md, cr, zz_hc d, zz_hg d, zz_hi d, zz_ib d, zz_il d, zz_it d, zz_qi d, zz_qc d, zz_gc d, zz_lc d, zz_lr d, co, zz_fr d, zz_en d, ma, wr, zz_ta d, upd yp s 0, ki, le, go, la, ps, pd, upd pt s 0, kw, kh, kf, kz, ky, zz_wh d, zz_od d, zz_tg d, zz_tr d, zz_so d, zz_bd d, bk_mv wo 0 (fun j => cb (16 * s + j)) n, be, bk_S_mono hS (by omega), ?_, ?_⟩
        · intro post J39 x2 x4 x5 x6 hp
          refine xw _ (fun _ => xk_answer hs ea ha hn16 hfl (fun q => by omega) (fun _ => br_f (by decide) (br_t rfl (xf _ ?_)))) (fun q => by omega) (fun q => by omega)
          rw [bk_uu]
          exact hp
        · intro post hp
          refine yw post (br_f (fun q => by have := (nI_eq (a := b % 16) (b := 9) (by omega) (by omega)).mp q; omega) (br_t (by rw [c8]; rfl) ⟨i4, ?_⟩))
          rw [cs, hle]
          refine yk_write hs ea ha (by omega) (fun q => by omega) (fun _ => ?_)
          refine yf _ ?_
          rw [bk_uu]
          exact hp
    · have n8 : ¬ nI (b % 16) = 8 := fun q => c8 ((nI_eq (a := b % 16) (b := 8) (by omega) (by omega)).mp q)
      by_cases c9 : b % 16 = 9
      · by_cases room : a + 2 + n ≤ 240
        · refine ⟨A, g, px, st, lf, cd, bg, gv, bk_wf (upd (upd ob (240 * s + a) (128 + 10)) (240 * s + (a + 1)) (nI n)) s (a + 2) (fun j => cb (16 * s + j)) n, upd ol s (nI (a + 2 + n)), pb, pn, upd xp s 0, fh, fl, fa, mk, cb, mi, mb, ml, pa, kb, kl, kc, th, pl, md, cr, hc, hg, hi, ib, il, it, qi, qc, gc, lc, lr, co, fr, en, ma, wr, ta, upd yp s 0, ki, le, go, la, ps, pd, pt, kw, kh, kf, kz, ky, wh, od, tg, tr, so, bd, bk_mv wo 0 (fun j => cb (16 * s + j)) n, be, ⟨⟨dk_mono (dk_ol h1 (by omega)) (by omega), h2, h3, h4, h5, h6, h7, h8⟩, hF0⟩, ?_, ?_⟩
          · intro post J39 x2 x4 x5 x6 hp
            exact xw _ (fun q => by omega) (fun _ => xk_answer hs ea ha hn16 hfl (fun _ => br_f (by decide) (br_f (by decide) (br_t rfl hp))) (fun q => by omega)) (fun q => by omega)
          · intro post hp
            refine yw post (br_t (by rw [c9]; rfl) ⟨i4, yk_write hs ea ha (by omega) (fun _ => ?_) (fun q => by omega)⟩)
            rw [wfc]
            exact br_f n8 hp
        · refine ⟨A, g, px, st, lf, cd, bg, gv, ob, ol, pb, pn, upd xp s 0, fh, fl, fa, mk, cb, mi, mb, ml, pa, kb, kl, kc, th, pl, md, cr, hc, hg, hi, ib, il, it, qi, qc, gc, lc, lr, co, fr, en, ma, wr, ta, upd yp s 0, ki, le, go, la, ps, pd, pt, kw, kh, kf, kz, ky, wh, od, tg, tr, so, bd, bk_mv wo 0 (fun j => cb (16 * s + j)) n, be, ⟨⟨dk_mono h1 (by omega), h2, h3, h4, h5, h6, h7, h8⟩, hF0⟩, ?_, ?_⟩
          · intro post J39 x2 x4 x5 x6 hp
            exact xw _ (fun q => by omega) (fun _ => xk_answer hs ea ha hn16 hfl (fun q => by omega) (fun _ => br_f (by decide) (br_f (by decide) (br_t rfl hp)))) (fun q => by omega)
          · intro post hp
            exact yw post (br_t (by rw [c9]; rfl) ⟨i4, yk_write hs ea ha (by omega) (fun q => by omega) (fun _ => br_f n8 hp)⟩)
      · refine ⟨A, g, px, st, lf, cd, bg, gv, ob, ol, pb, pn, upd xp s 0, fh, fl, fa, mk, cb, mi, mb, ml, pa, kb, kl, kc, th, pl, md, cr, hc, hg, hi, ib, il, it, qi, qc, gc, lc, lr, co, fr, en, ma, wr, ta, upd yp s 0, ki, le, go, la, ps, pd, pt, kw, kh, kf, kz, ky, wh, od, tg, tr, so, bd, bk_mv wo 0 (fun j => cb (16 * s + j)) n, be, ⟨⟨dk_mono h1 (by omega), h2, h3, h4, h5, h6, h7, h8⟩, hF0⟩, ?_, ?_⟩
        · intro post J39 x2 x4 x5 x6 hp
          exact xw _ (fun q => by omega) (fun q => by omega) (fun _ => br_f (by decide) (br_f (by decide) (br_t rfl hp)))
        · intro post hp
          exact yw post (br_f (fun q => c9 ((nI_eq (a := b % 16) (b := 9) (by omega) (by omega)).mp q)) (br_f n8 hp))
  · -- a part of a message
    have o01 : b % 16 = 1 ∨ b % 16 = 0 := by
      rcases hk with k | k | k <;> omega
    -- what packed is then
    have hpd : ∃ pd' : Nat → Int32, (∀ q, q ≠ s → pd' q = pd q) ∧ ((mi s = 1 ∧ pd' s = 0) ∨ (mi s = 2 ∧ pd' s = 1)) ∧
        (∀ (post : SY → Prop), wY_done_117 post (nI s) fr en ma wr st lf cd ta bg kc ob ol pb pn (upd yp s 0) ki le go mk cb mb ml la ps pd' pt kw kh kf kz ky th pl md cr gc lc lr wh od tg tr so bd wo be → wpY_done post (fr, en, ma, wr, st, lf, cd, ta, bg, kc, ob, ol, pb, pn, yp, ki, le, go, mk, cb, mb, ml, la, ps, pd, pt, kw, kh, kf, kz, ky, th, pl, md, cr, gc, lc, lr, wh, od, tg, tr, so, bd, wo, be) (nI s)) := by
      have npv : vp_nar .boolean (ps s) = ps s := by rw [hps]; split; exact bn_b0; exact bn_b1
      rcases hk with k | k | k
      · refine ⟨upd pd s (ps s), fun q ne => pk_un ne, ?_, ?_⟩
        · rw [pk_us, k.2.2, hps]
          by_cases p0 : b / 64 % 2 = 0
          · rw [if_pos p0, if_pos p0]; exact Or.inl ⟨rfl, rfl⟩
          · rw [if_neg p0, if_neg p0]; exact Or.inr ⟨rfl, rfl⟩
        · intro post hp
          refine ⟨i4, ?_⟩
          rw [cs, hki, npv]
          exact nm_e ⟨i4, nm_e (br_t (nI_le (b := 7) (by omega) (by omega)) (br_t (by rw [k.1]; rfl) ⟨i4, i4, nm_e hp⟩))⟩
      · refine ⟨pd, fun _ _ => rfl, ?_, ?_⟩
        · rcases k.2.2 with q | q | q
          · have := q.2
            rw [k.2.1] at this
            exact absurd this (by decide)
          · exact Or.inl ⟨q.1, q.2.2⟩
          · exact Or.inr ⟨q.1, q.2.2⟩
        · intro post hp
          refine ⟨i4, ?_⟩
          rw [cs, hki]
          exact nm_e ⟨i4, nm_e (br_t (nI_le (b := 7) (by omega) (by omega)) (br_f (fun q => by have := (nI_eq (a := b % 16) (b := 1) (by omega) (by omega)).mp q; omega) hp))⟩
      · omega
    obtain ⟨pd1, pdn, pdm, yw⟩ := hpd
    have xw : ∀ (post : Int32 → SX → Prop), (b < 128 → post 0 (px, st, lf, cd, bg, gv, ob, ol, pb, pn, upd xp s 0, fh, fl, fa, mk, cb, mi, mb, ml, pa, kb, kl, kc, th, pl, md, cr, hc, hg, hi, ib, il, it, qi, qc, gc, lc, lr, co)) → (128 ≤ b → wpX_finishMessage (fun r u => match u with | (px, st, lf, cd, bg, gv, ob, ol, pb, pn, xp, fh, fl, fa, mk, cb, mi, mb, ml, pa, kb, kl, kc, th, pl, md, cr, hc, hg, hi, ib, il, it, qi, qc, gc, lc, lr, co) => post r (px, st, lf, cd, bg, gv, ob, ol, pb, pn, xp, fh, fl, fa, mk, cb, mi, mb, ml, pa, kb, kl, kc, th, pl, md, cr, hc, hg, hi, ib, il, it, qi, qc, gc, lc, lr, co)) (px, st, lf, cd, bg, gv, ob, ol, pb, pn, upd xp s 0, fh, fl, fa, mk, cb, mi, mb, ml, pa, kb, kl, kc, th, pl, md, cr, hc, hg, hi, ib, il, it, qi, qc, gc, lc, lr, co) (nI s)) → wpX_finishFrame post (px, st, lf, cd, bg, gv, ob, ol, pb, pn, xp, fh, fl, fa, mk, cb, mi, mb, ml, pa, kb, kl, kc, th, pl, md, cr, hc, hg, hi, ib, il, it, qi, qc, gc, lc, lr, co) (nI s) := by
      intro post g0 g1
      refine ⟨i4, ?_⟩
      rw [cs, hfh]
      refine nm_e ⟨i4, nm_e (nm_r e15 (br_t (nI_lt (b := 8) (by omega) (by omega)) (br_c (fun q => g0 (e128.mp q)) (fun q => g1 ?_))))⟩
      apply Classical.byContradiction
      intro nq
      exact q (e128.mpr (by omega))
    by_cases last : b < 128
    · rw [if_pos last] at hla
      obtain ⟨h1, h2, h3, h4, h5, h6, h7, h8⟩ := h
      refine ⟨A, g, px, st, lf, cd, bg, gv, ob, ol, pb, pn, upd xp s 0, fh, fl, fa, mk, cb, mi, mb, ml, pa, kb, kl, kc, th, pl, md, cr, hc, hg, hi, ib, il, it, qi, qc, gc, lc, lr, co, fr, en, ma, wr, ta, upd yp s 0, ki, le, go, la, ps, pd1, upd pt s 1, kw, kh, kf, kz, ky, wh, od, tg, tr, so, bd, wo, be, ⟨⟨dk_mono h1 (by omega), h2, h3, h4, h5, h6, h7, h8⟩, ?_⟩, ?_, ?_⟩
      · intro q hq
        by_cases e : q = s
        · subst e
          refine ⟨z, hz, hml, Or.inl ⟨pk_us, pk_us, ?_⟩⟩
          rcases pdm with w | w
          · exact Or.inr (Or.inl ⟨w.1, pk_us, w.2⟩)
          · exact Or.inr (Or.inr ⟨w.1, pk_us, w.2⟩)
        · exact bk_F_of (hF q hq e) rfl (pk_un e) rfl rfl rfl rfl (pk_un e) rfl rfl rfl rfl rfl (pdn q e) (pk_un e)
      · intro post J39 x2 x4 x5 x6 hp
        exact xw _ (fun _ => br_f (by decide) (br_f (by decide) (br_t rfl hp))) (fun q => by omega)
      · intro post hp
        refine yw post ⟨i4, ?_⟩
        rw [cs, hla]
        refine br_t rfl ⟨i4, ?_⟩
        rw [cs, bn_b1]
        refine nm_e ⟨i4, ?_⟩
        rw [hla]
        exact br_t rfl hp
    · rw [if_neg last] at hla
      obtain ⟨A', g', px', st', lf', cd', bg', gv', ob', ol', pb', pn', xp', fh', fl', fa', mk', cb', mi', mb', ml', pa', kb', kl', kc', th', pl', md', cr', hc', hg', hi', ib', il', it', qi', qc', gc', lc', lr', co', fr', en', ma', wr', ta', yp', ki', le', go', la', ps', pd', pt', kw', kh', kf', kz', ky', wh', od', tg', tr', so', bd', wo', be', hS, x1, y1⟩ := lk_msg (px := px) (st := st) (lf := lf) (cd := cd) (bg := bg) (gv := gv) (ob := ob) (ol := ol) (pb := pb) (pn := pn) (fh := fh) (fl := fl) (fa := fa) (mk := mk) (cb := cb) (mi := mi) (mb := mb) (ml := ml) (pa := pa) (kb := kb) (kl := kl) (kc := kc) (th := th) (pl := pl) (md := md) (cr := cr) (hc := hc) (hg := hg) (hi := hi) (ib := ib) (il := il) (it := it) (qi := qi) (qc := qc) (gc := gc) (lc := lc) (lr := lr) (co := co) (fr := fr) (en := en) (ma := ma) (wr := wr) (ta := ta) (ki := ki) (le := le) (go := go) (la := la) (ps := ps) (kw := kw) (kh := kh) (kf := kf) (kz := kz) (ky := ky) (wh := wh) (od := od) (tg := tg) (tr := tr) (so := so) (bd := bd) (wo := wo) (be := be) (xp := upd xp s 0) (yp := upd yp s 0) (pd := pd1) (pt := upd pt s 0) h hs (fun q hq e => bk_F_of (hF q hq e) rfl (pk_un e) rfl rfl rfl rfl (pk_un e) rfl rfl rfl rfl rfl (pdn q e) (pk_un e)) hz hml pk_us pk_us pk_us hst (by
        rcases pdm with w | w
        · exact Or.inr ⟨by rw [w.1]; decide, w.2⟩
        · exact Or.inl w) hB
      refine ⟨A', g', px', st', lf', cd', bg', gv', ob', ol', pb', pn', xp', fh', fl', fa', mk', cb', mi', mb', ml', pa', kb', kl', kc', th', pl', md', cr', hc', hg', hi', ib', il', it', qi', qc', gc', lc', lr', co', fr', en', ma', wr', ta', yp', ki', le', go', la', ps', pd', pt', kw', kh', kf', kz', ky', wh', od', tg', tr', so', bd', wo', be', hS, ?_, ?_⟩
      · intro post J39 x2 x4 x5 x6 hp
        exact xw _ (fun q => by omega) (fun _ => x1 post J39 x2 x4 x5 x6 hp)
      · intro post hp
        refine yw post ⟨i4, ?_⟩
        rw [cs, hla]
        refine br_f (by decide) ⟨i4, ?_⟩
        rw [cs, bn_b0]
        refine nm_e ⟨i4, ?_⟩
        rw [hla]
        exact br_f (by decide) (y1 _ hp)
end CTRL
