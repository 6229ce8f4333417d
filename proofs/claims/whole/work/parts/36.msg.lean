section CMDA
variable {st pl md cr : Nat → Int32}
theorem lk_cmdA {B : Nat} {A : Nat → List bk_E} {g : Nat → Nat} {ob : Nat → Int32} {ol : Nat → Int32} {gc : Nat → Int32} {lc : Nat → Int32} {lr : Nat → Int32} {gv : Nat → Int32} {th : Nat → Int32} {hc : Nat → Int32} {hg : Nat → Int32} {hi : Nat → Int32} {ib : Nat → Int32} {il : Nat → Int32} {it : Nat → Int32} {qi : Nat → Int32} {qc : Nat → Int32} {ta : Nat → Int32} {wh : Nat → Int32} {od : Nat → Int32} {tg : Nat → Int32} {tr : Nat → Int32} {so : Nat → Int32} {bd : Nat → Int32} {fr : Int32} {en : Int32} {bg kb kl kc kw kh kf kz ky : Nat → Int32} (h : bk_C B A g st ol th pl md cr lr gv ib il it qi qc ta wh od tg tr so bd fr en) (rh : bk_RH A hi hg hc) (K : ∀ z, z < 4 → bk_K kc kb kl kw kh kf kz ky z) (hbg : ∀ z, z < 4 → ∃ b, b < 4 ∧ bg z = nI b) (hB : B + 112 ≤ 100000000) {s m b c : Nat} {v : Nat → Nat} (hs : s < 4) (hm1 : 1 ≤ m) (hm : m ≤ 200) (hv : ∀ j, v j < 256) (hb : bg s = nI b) (hb4 : b < 4) (hc' : kc s = nI c) (hc6 : c ≤ 6) (valid : bk_Vd th s m b c v) :
    ∃ (d : bk_DT) (pl' md' cr' bg' kb' kl' kc' kw' kh' kf' kz' ky' : Nat → Int32), bk_C (B + 112) (zz_A d) (zz_g d) st (zz_ol d) (zz_th d) pl' md' cr' (zz_lr d) (zz_gv d) (zz_ib d) (zz_il d) (zz_it d) (zz_qi d) (zz_qc d) (zz_ta d) (zz_wh d) (zz_od d) (zz_tg d) (zz_tr d) (zz_so d) (zz_bd d) (zz_fr d) (zz_en d) ∧ bk_RH (zz_A d) (zz_hi d) (zz_hg d) (zz_hc d) ∧ (∀ z, z < 4 → bk_K kc' kb' kl' kw' kh' kf' kz' ky' z) ∧ (∀ z, z < 4 → ∃ b, b < 4 ∧ bg' z = nI b) ∧ (∀ r, r / 4 ≠ s → zz_th d r = th r) ∧
      (∀ {lf cd pb pn xp fh fl fa mk cb mi mb ml co : Nat → Int32} (pa : Nat → Int32) (post : SX → Prop), (∀ j, j < m → pa j = nI (v j)) → post (nI m, st, lf, cd, bg', zz_gv d, zz_ob d, zz_ol d, pb, pn, xp, fh, fl, fa, mk, cb, mi, mb, ml, pa, kb', kl', kc', zz_th d, pl', md', cr', zz_hc d, zz_hg d, zz_hi d, zz_ib d, zz_il d, zz_it d, zz_qi d, zz_qc d, zz_gc d, zz_lc d, zz_lr d, co) → wpX_doCommand post (nI m, st, lf, cd, bg, gv, ob, ol, pb, pn, xp, fh, fl, fa, mk, cb, mi, mb, ml, pa, kb, kl, kc, th, pl, md, cr, hc, hg, hi, ib, il, it, qi, qc, gc, lc, lr, co) (nI s)) ∧
      (∀ {lf cd pb pn yp ki le go mk cb mb ml la ps pd pt wo be : Nat → Int32} {wr : Int32}, (∀ j, j < m → wo j = nI (v j)) → ∃ wo' : Nat → Int32, ∀ (post : Int32 → SY → Prop), post 1 (zz_fr d, zz_en d, nI m, wr, st, lf, cd, zz_ta d, bg', kc', zz_ob d, zz_ol d, pb, pn, yp, ki, le, go, mk, cb, mb, ml, la, ps, pd, pt, kw', kh', kf', kz', ky', zz_th d, pl', md', cr', zz_gc d, zz_lc d, zz_lr d, zz_wh d, zz_od d, zz_tg d, zz_tr d, zz_so d, zz_bd d, wo', be) → wpY_command post (fr, en, nI m, wr, st, lf, cd, ta, bg, kc, ob, ol, pb, pn, yp, ki, le, go, mk, cb, mb, ml, la, ps, pd, pt, kw, kh, kf, kz, ky, th, pl, md, cr, gc, lc, lr, wh, od, tg, tr, so, bd, wo, be) (nI s)) := by
  have hv1 := hv 1
  rcases bk_code (v 0) with k | k | k | k | k | k | k | k | k | k
  · exact absurd valid (vd_0 k)
  · exact lk_cmd1 h rh K hbg hB hs hm1 hm hv hb hb4 hc' hc6 valid k
  · exact lk_cmd2 h rh K hbg hB hs hm1 hm hv hb hb4 hc' hc6 valid k
  · have z := (vd_3 k).mp valid
    exact lk_cmd3 h rh K hbg hB hs hm1 hm hv hb hb4 hc' hc6 valid ⟨by omega, by omega, z.2.2.2⟩ (Or.inl ⟨k, z.2.2.1, by omega, by omega⟩)
  · have z := (vd_4 k).mp valid
    exact lk_cmd3 h rh K hbg hB hs hm1 hm hv hb hb4 hc' hc6 valid ⟨by omega, by omega, z.2⟩ (Or.inr ⟨Or.inl k, by omega, by omega⟩)
  · have z := (vd_5 k).mp valid
    exact lk_cmd3 h rh K hbg hB hs hm1 hm hv hb hb4 hc' hc6 valid ⟨by omega, by omega, z.2⟩ (Or.inr ⟨Or.inr k, by omega, by omega⟩)
  · exact lk_cmd6 h rh K hbg hB hs hm1 hm hv hb hb4 hc' hc6 valid k
  · exact lk_cmd7 h rh K hbg hB hs hm1 hm hv hb hb4 hc' hc6 valid k
  · exact lk_cmd8 h rh K hbg hB hs hm1 hm hv hb hb4 hc' hc6 valid k
  · exact lk_cmd9 h rh K hbg hB hs hm1 hm hv hb hb4 hc' hc6 valid k
end CMDA
theorem bk_past_congr (pb pa wo : Nat → Int32) (s k m : Nat) (hk : k ≤ 64) (h : ∀ j, j < m → pa j = wo j) : bk_past pb pa s k m = bk_past pb wo s k m := by
  funext j
  unfold bk_past
  split
  · split
    · rfl
    · exact h _ (by omega)
  · rfl
section MSG
variable {B : Nat} {A : Nat → List bk_E} {g : Nat → Nat} {st lf cd bg gv ob ol pb pn xp fh fl fa mk cb mi mb ml pa kb kl kc th pl md cr hc hg hi ib il it qi qc gc lc lr co ta yp ki le go la ps pd pt kw kh kf kz ky wh od tg tr so bd wo be : Nat → Int32} {px fr en ma wr : Int32}
theorem xk_copy12 {post : SX → Prop} {s n : Nat} (hs : s < 4) (hn : n ≤ 200) (hp : post (nI n, st, lf, cd, bg, gv, ob, ol, pb, pn, xp, fh, fl, fa, mk, cb, mi, mb, ml, bk_mv pa 0 (fun k => mb (200 * s + k)) n, kb, kl, kc, th, pl, md, cr, hc, hg, hi, ib, il, it, qi, qc, gc, lc, lr, co)) :
    ∀ f k, k ≤ n → n - k < f → wX_copyMessage_12 post (nI s) (nI n) f (nI k) st lf cd bg gv ob ol pb pn xp fh fl fa mk cb mi mb ml (bk_mv pa 0 (fun k => mb (200 * s + k)) k) kb kl kc th pl md cr hc hg hi ib il it qi qc gc lc lr co
  | 0, k, _, h => by omega
  | f + 1, k, h1, h2 => by
    have e1 : nI s * 200 + nI k = nI (200 * s + k) := by rw [bn_mul, nI_add, Nat.mul_comm]
    have c1 : (nI (200 * s + k)).toNatClampNeg = 200 * s + k := nI_clamp (by omega)
    have ck : (nI k).toNatClampNeg = k := nI_clamp (by omega)
    have ih := fun g => xk_copy12 hs hn hp f (k + 1) g (by omega)
    rw [bk_mv, Nat.zero_add] at ih
    refine pk_le n k (fun g => ?_) (fun g => ?_)
    · have : k = n := by omega
      subst this
      exact hp
    · rw [e1, c1, ck]
      exact ⟨vp_in_nI (by omega) (by omega), vp_in_nI (by omega) (by omega), nm_e (nm_r (nI_1 k) (ih (by omega)))⟩
theorem yk_copy41 {post : SY → Prop} {s n : Nat} (hs : s < 4) (hn : n ≤ 200) (hpd : pd s = 0) (hp : wY_message_77 post (nI s) fr en (nI n) 0 st lf cd ta bg kc ob ol pb pn yp ki le go mk cb mb ml la ps pd pt kw kh kf kz ky th pl md cr gc lc lr wh od tg tr so bd (bk_mv wo 0 (fun k => mb (200 * s + k)) n) be) :
    ∀ f k, k ≤ n → n - k < f → wY_message_41 post (nI s) (nI n) f (nI k) fr en (nI k) 0 st lf cd ta bg kc ob ol pb pn yp ki le go mk cb mb ml la ps pd pt kw kh kf kz ky th pl md cr gc lc lr wh od tg tr so bd (bk_mv wo 0 (fun k => mb (200 * s + k)) k) be
  | 0, k, _, h => by omega
  | f + 1, k, h1, h2 => by
    have cs : (nI s).toNatClampNeg = s := nI_clamp (by omega)
    have e1 : 200 * nI s + nI k = nI (200 * s + k) := by rw [bn_mul2, nI_add]
    have c1 : (nI (200 * s + k)).toNatClampNeg = 200 * s + k := nI_clamp (by omega)
    have ck : (nI k).toNatClampNeg = k := nI_clamp (by omega)
    have ih := fun g => yk_copy41 hs hn hpd hp f (k + 1) g (by omega)
    rw [bk_mv, Nat.zero_add] at ih
    refine pk_le n k (fun g => ?_) (fun g => ⟨pk_in s 4 hs, ?_⟩)
    · have : k = n := by omega
      subst this
      exact hp
    · rw [cs, hpd, e1, c1]
      refine br_t rfl ⟨vp_in_nI (by omega) (by omega), br_f (fun z => by have := (nI_eq (a := k) (b := 200) (by omega) (by omega)).mp z; omega) (br_t (by decide) ⟨vp_in_nI (by omega) (by omega), ?_⟩)⟩
      rw [ck]
      exact nm_e (nm_r (nI_1 k) (nm_r (nI_1 k) (ih (by omega))))
/-- the message as it is unpacked, on both sides -/
theorem lk_plain {s n : Nat} (hs : s < 4) (hn : n ≤ 200) (hml : ml s = nI n) (hmb : bk_By mb) (hpb : bk_By pb) (hpn : ∃ a, a ≤ 64 ∧ pn s = nI a) (hk : (mi s = 2 ∧ pd s = 1) ∨ (mi s ≠ 2 ∧ pd s = 0)) :
    ∃ (e m : Nat) (pa1 wo1 : Nat → Int32), (e = 0 ∨ e = 7 ∨ e = 9) ∧ m ≤ 200 ∧ bk_Ag m pa1 wo1 ∧
      (∀ (post : Int32 → SX → Prop), wX_finishMessage_26 post (nI s) (nI e) (nI m) st lf cd bg gv ob ol pb pn xp fh fl fa mk cb mi mb ml pa1 kb kl kc th pl md cr hc hg hi ib il it qi qc gc lc lr co → wpX_finishMessage post (px, st, lf, cd, bg, gv, ob, ol, pb, pn, xp, fh, fl, fa, mk, cb, mi, mb, ml, pa, kb, kl, kc, th, pl, md, cr, hc, hg, hi, ib, il, it, qi, qc, gc, lc, lr, co) (nI s)) ∧
      (∀ (post : SY → Prop), wY_message_77 post (nI s) fr en (nI m) (nI e) st lf cd ta bg kc ob ol pb pn yp ki le go mk cb mb (upd ml s 0) la ps pd pt kw kh kf kz ky th pl md cr gc lc lr wh od tg tr so bd wo1 be → wpY_message post (fr, en, ma, wr, st, lf, cd, ta, bg, kc, ob, ol, pb, pn, yp, ki, le, go, mk, cb, mb, ml, la, ps, pd, pt, kw, kh, kf, kz, ky, th, pl, md, cr, gc, lc, lr, wh, od, tg, tr, so, bd, wo, be) (nI s)) := by
  have cs : (nI s).toNatClampNeg = s := nI_clamp (by omega)
  have i4 : vp_in (nI s) 4 := pk_in s 4 hs
  obtain ⟨k0, hk0, ek0⟩ := hpn
  have hw : ∃ w : Nat → Nat, (∀ j, w j < 256) ∧ ∀ j, mb (200 * s + j) = nI (w j) := by
    refine ⟨fun j => (mb (200 * s + j)).toNatClampNeg % 256, fun j => Nat.mod_lt _ (by omega), fun j => ?_⟩
    obtain ⟨v, hv, e⟩ := hmb (200 * s + j)
    dsimp only
    rw [e, nI_clamp (by omega), Nat.mod_eq_of_lt hv]
  obtain ⟨w, hw2, hw1⟩ := hw
  rcases hk with ⟨k1, k2⟩ | ⟨k1, k2⟩
  · obtain ⟨e, m, pa1, wo1, he, hm, ag, x1, y1, _⟩ := lk_unp (st := st) (lf := lf) (cd := cd) (bg := bg) (gv := gv) (ob := ob) (ol := ol) (pb := pb) (pn := pn) (xp := xp) (fh := fh) (fl := fl) (fa := fa) (mk := mk) (cb := cb) (mi := mi) (mb := mb) (ml := ml) (kb := kb) (kl := kl) (kc := kc) (th := th) (pl := pl) (md := md) (cr := cr) (hc := hc) (hg := hg) (hi := hi) (ib := ib) (il := il) (it := it) (qi := qi) (qc := qc) (gc := gc) (lc := lc) (lr := lr) (co := co) (fr := fr) (en := en) (ta := ta) (yp := yp) (ki := ki) (le := le) (go := go) (la := la) (ps := ps) (pd := pd) (pt := pt) (kw := kw) (kh := kh) (kf := kf) (kz := kz) (ky := ky) (wh := wh) (od := od) (tg := tg) (tr := tr) (so := so) (bd := bd) (be := be) (mly := upd ml s 0) (n := n) (w := w) hs hn hk0 ek0 hpb (fun j _ => hw1 j) hw2 n 0 pa wo 0 (Nat.le_refl _) (by omega) (by omega) (fun j hj => absurd hj (Nat.not_lt_zero j))
    simp only [Nat.sub_self] at x1 y1
    refine ⟨e, m, pa1, wo1, he, hm, ag, ?_, ?_⟩
    · intro post hp
      refine ⟨i4, ?_⟩
      rw [cs]
      refine br_t k1 ⟨i4, ?_⟩
      rw [cs, hml]
      exact nm_e ⟨n + 1, x1 _ (n + 1) (by omega) hp⟩
    · intro post hp
      refine ⟨i4, ?_⟩
      rw [cs, hml, k2]
      refine nm_e ⟨i4, nm_e ⟨i4, br_f (by decide) ⟨n + 1, y1 trivial _ (n + 1) (by omega) ⟨1, ?_⟩⟩⟩⟩
      refine br_c (fun _ => hp) (fun _ => ⟨i4, ?_⟩)
      rw [cs, k2]
      exact br_f (by decide) hp
  · refine ⟨0, n, bk_mv pa 0 (fun k => mb (200 * s + k)) n, bk_mv wo 0 (fun k => mb (200 * s + k)) n, Or.inl rfl, hn, ?_, ?_, ?_⟩
    · intro j hj
      have z1 := bk_mv_i pa 0 (fun k => mb (200 * s + k)) n j hj
      have z2 := bk_mv_i wo 0 (fun k => mb (200 * s + k)) n j hj
      rw [Nat.zero_add] at z1 z2
      exact ⟨w j, hw2 j, z1.trans (hw1 j), z2.trans (hw1 j)⟩
    · intro post hp
      refine ⟨i4, ?_⟩
      rw [cs]
      refine br_f k1 ⟨i4, ?_⟩
      rw [cs, hml]
      exact nm_e ⟨n + 1, xk_copy12 hs hn hp (n + 1) 0 (by omega) (by omega)⟩
    · intro post hp
      refine ⟨i4, ?_⟩
      rw [cs, hml, k2]
      exact nm_e ⟨i4, nm_e ⟨i4, br_t rfl ⟨n + 1, yk_copy41 (ml := upd ml s 0) hs hn k2 hp (n + 1) 0 (by omega) (by omega)⟩⟩⟩
end MSG
