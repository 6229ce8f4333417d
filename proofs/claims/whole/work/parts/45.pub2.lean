theorem bk_shn_0 (f : Nat → Int32) (b n : Nat) : (fun j => if b ≤ j ∧ j < b + 0 then f (j + n) else f j) = f := by
  funext j; rw [if_neg (by omega)]
def bk_shn (f : Nat → Int32) (b n i : Nat) : Nat → Int32 := fun j => if b ≤ j ∧ j < b + i then f (j + n) else f j
theorem bk_shn_o (f : Nat → Int32) (b n i : Nat) : bk_shn f b n i (b + i + n) = f (b + i + n) := by
  unfold bk_shn
  by_cases h : b ≤ b + i + n ∧ b + i + n < b + i
  · omega
  · rw [if_neg h]
theorem bk_shn_s (f : Nat → Int32) (b n i : Nat) : upd (bk_shn f b n i) (b + i) (f (b + i + n)) = bk_shn f b n (i + 1) := by
  funext j
  unfold upd bk_shn
  by_cases e : j = b + i
  · rw [if_pos e, if_pos (by omega), e]
  · rw [if_neg e]
    by_cases h : b ≤ j ∧ j < b + i
    · rw [if_pos h, if_pos (by omega)]
    · rw [if_neg h, if_neg (by omega)]
def bk_acc (ob : Nat → Int32) (s : Nat) : Nat → Int64
  | 0 => 0
  | k + 1 => bk_acc ob s k ||| (((ob (240 * s + k)).toInt64) <<< ((8 * nI k).toInt64 &&& 63))
section PUB2
variable {B : Nat} {A : Nat → List bk_E} {g : Nat → Nat} {st lf cd bg gv ob ol pb pn xp fh fl fa mk cb mi mb ml pa kb kl kc th pl md cr hc hg hi ib il it qi qc gc lc lr co ta yp ki le go la ps pd pt kw kh kf kz ky wh od tg tr so bd wo be : Nat → Int32} {px fr en ma wr : Int32}
theorem lk_S_clear (h : bk_S B A g st ol th pl md cr lr gv ib il it qi qc ta wh od tg tr so bd fr en hc hg hi kc kb kl kw kh kf kz ky mk cb mb pb pn bg be ml xp fh fl fa mi yp ki le go la ps pd pt) {s : Nat} (hs : s < 4) (hth : ∀ r, r < 16 → r / 4 = s → th r = 0) : bk_S B A (fun z => if z = s then 0 else g z) (upd st s (nI 0)) (upd ol s (nI 0)) th pl md cr lr (upd gv s 0) ib il it qi qc (upd ta s 0) wh od tg tr so bd fr en hc hg hi kc kb kl kw kh kf kz ky mk cb mb pb (upd pn s 0) bg be ml xp fh fl fa mi yp ki le go la ps pd pt := by
  obtain ⟨⟨h1, h2, h3, h4, h5, h6, h7, h8⟩, hF⟩ := h
  have w := dk_zero (s := s) (dk_ol (s := s) (a := 0) (dk_st (s := s) (a := 0) h1 (by omega)) (by omega)) (fun r hr e => by
    rcases h1.2.2.1 r hr with ⟨_, z⟩ | ⟨z, _⟩
    · exact z
    · rw [hth r hr e] at z; exact absurd z (by decide))
  refine ⟨⟨w, h2, h3, h4, fun z hz => ?_, h6, fun z hz => ?_, h8⟩, hF⟩
  · by_cases e : z = s
    · subst e; exact ⟨0, by omega, pk_us⟩
    · rw [pk_un e]; exact h5 z hz
  · by_cases e : z = s
    · subst e; exact Or.inr hth
    · rw [pk_un e]; exact h7 z hz
theorem xk_t91 {post : Int64 → SX → Prop} {s n a : Nat} {x4 : Int64} (hs : s < 4) (hna : n + a ≤ 240)
    (hp : wpX_giveQueues (fun u => match u with | (px, st, lf, cd, bg, gv, ob, ol, pb, pn, xp, fh, fl, fa, mk, cb, mi, mb, ml, pa, kb, kl, kc, th, pl, md, cr, hc, hg, hi, ib, il, it, qi, qc, gc, lc, lr, co) => post x4 (px, st, lf, cd, bg, gv, ob, ol, pb, pn, xp, fh, fl, fa, mk, cb, mi, mb, ml, pa, kb, kl, kc, th, pl, md, cr, hc, hg, hi, ib, il, it, qi, qc, gc, lc, lr, co)) (px, st, lf, cd, bg, gv, bk_shn ob (240 * s) n a, upd ol s (nI a), pb, pn, xp, fh, fl, fa, mk, cb, mi, mb, ml, pa, kb, kl, kc, th, pl, md, cr, hc, hg, hi, ib, il, it, qi, qc, gc, lc, lr, co)) :
    ∀ f i, i ≤ a → a - i < f → wX_take_91 post (nI s) (nI n) (nI (240 * s)) x4 (nI a) px f (nI i) st lf cd bg gv (bk_shn ob (240 * s) n i) ol pb pn xp fh fl fa mk cb mi mb ml pa kb kl kc th pl md cr hc hg hi ib il it qi qc gc lc lr co
  | 0, i, _, h => by omega
  | f + 1, i, h1, h2 => by
    have cs : (nI s).toNatClampNeg = s := nI_clamp (by omega)
    have e1 : nI (240 * s) + nI n + nI i = nI (240 * s + i + n) := by
      rw [nI_add, nI_add]
      exact congrArg nI (by omega)
    have e2 : nI (240 * s) + nI i = nI (240 * s + i) := nI_add _ _
    have c1 : (nI (240 * s + i + n)).toNatClampNeg = 240 * s + i + n := nI_clamp (by omega)
    have c2 : (nI (240 * s + i)).toNatClampNeg = 240 * s + i := nI_clamp (by omega)
    refine pk_le a i (fun g => ⟨pk_in s 4 hs, ?_⟩) (fun g => ?_)
    · have : i = a := by omega
      subst this
      rw [cs]
      exact nm_e hp
    · rw [e1, e2, c1, c2, bk_shn_o, bk_shn_s]
      exact ⟨vp_in_nI (by omega) (by omega), vp_in_nI (by omega) (by omega), nm_e (nm_r (nI_1 i) (xk_t91 hs hna hp f (i + 1) (by omega) (by omega)))⟩
theorem xk_t45 {post : Int64 → SX → Prop} {s n : Nat} (hs : s < 4) (hn : n ≤ 7) (hend : ∀ f, wX_take_45 post (nI s) (nI n) (nI (240 * s)) px st lf cd bg gv ob ol pb pn xp fh fl fa mk cb mi mb ml pa kb kl kc th pl md cr hc hg hi ib il it qi qc gc lc lr co (f + 1) (bk_acc ob s n) (nI n)) :
    ∀ f i, i ≤ n → n - i < f → wX_take_45 post (nI s) (nI n) (nI (240 * s)) px st lf cd bg gv ob ol pb pn xp fh fl fa mk cb mi mb ml pa kb kl kc th pl md cr hc hg hi ib il it qi qc gc lc lr co f (bk_acc ob s i) (nI i)
  | 0, i, _, h => by omega
  | f + 1, i, h1, h2 => by
    by_cases e : i = n
    · subst e; exact hend f
    · have e2 : nI (240 * s) + nI i = nI (240 * s + i) := nI_add _ _
      have c2 : (nI (240 * s + i)).toNatClampNeg = 240 * s + i := nI_clamp (by omega)
      refine br_f (nI_ge (by omega) (by omega)) ?_
      rw [e2, c2]
      exact ⟨vp_in_nI (by omega) (by omega), nm_e (nm_r (nI_1 i) (xk_t45 hs hn hend f (i + 1) (by omega) (by omega)))⟩
theorem yk_t90 {post : Int64 → SY → Prop} {s n a : Nat} {x3 : Int64} (hs : s < 4) (hna : n + a ≤ 240) (hol : ol s = nI a)
    (hp : wpY_giveAll (fun u => match u with | (fr, en, ma, wr, st, lf, cd, ta, bg, kc, ob, ol, pb, pn, yp, ki, le, go, mk, cb, mb, ml, la, ps, pd, pt, kw, kh, kf, kz, ky, th, pl, md, cr, gc, lc, lr, wh, od, tg, tr, so, bd, wo, be) => post x3 (fr, en, ma, wr, st, lf, cd, ta, bg, kc, ob, ol, pb, pn, yp, ki, le, go, mk, cb, mb, ml, la, ps, pd, pt, kw, kh, kf, kz, ky, th, pl, md, cr, gc, lc, lr, wh, od, tg, tr, so, bd, wo, be)) (fr, en, ma, wr, st, lf, cd, ta, bg, kc, bk_shn ob (240 * s) n a, ol, pb, pn, yp, ki, le, go, mk, cb, mb, ml, la, ps, pd, pt, kw, kh, kf, kz, ky, th, pl, md, cr, gc, lc, lr, wh, od, tg, tr, so, bd, wo, be)) :
    ∀ f i, i ≤ a → a - i < f → wY_take_90 post (nI s) (nI n) x3 fr en ma wr f (nI (240 * s + i)) st lf cd ta bg kc (bk_shn ob (240 * s) n i) ol pb pn yp ki le go mk cb mb ml la ps pd pt kw kh kf kz ky th pl md cr gc lc lr wh od tg tr so bd wo be
  | 0, i, _, h => by omega
  | f + 1, i, h1, h2 => by
    have cs : (nI s).toNatClampNeg = s := nI_clamp (by omega)
    have e0 : 240 * nI s + nI a = nI (240 * s + a) := by rw [bn_mul2, nI_add]
    have e1 : nI (240 * s + i) + nI n = nI (240 * s + i + n) := nI_add _ _
    have c1 : (nI (240 * s + i + n)).toNatClampNeg = 240 * s + i + n := nI_clamp (by omega)
    have c2 : (nI (240 * s + i)).toNatClampNeg = 240 * s + i := nI_clamp (by omega)
    refine ⟨pk_in s 4 hs, ?_⟩
    rw [cs, hol, e0]
    refine pk_le (240 * s + a) (240 * s + i) (fun g => ?_) (fun g => ?_)
    · have : i = a := by omega
      subst this
      exact hp
    · rw [e1, c1, c2, bk_shn_o, bk_shn_s]
      exact ⟨vp_in_nI (by omega) (by omega), vp_in_nI (by omega) (by omega), nm_e (nm_r (nI_1 _) (yk_t90 hs hna hol hp f (i + 1) (by omega) (by omega)))⟩
theorem yk_t38 {post : Int64 → SY → Prop} {s n : Nat} (hs : s < 4) (hn : n ≤ 7) (hend : ∀ f, wY_take_38 post (nI s) (nI n) fr en ma wr st lf cd ta bg kc ob ol pb pn yp ki le go mk cb mb ml la ps pd pt kw kh kf kz ky th pl md cr gc lc lr wh od tg tr so bd wo be (f + 1) (bk_acc ob s n) (nI n)) :
    ∀ f i, i ≤ n → n - i < f → wY_take_38 post (nI s) (nI n) fr en ma wr st lf cd ta bg kc ob ol pb pn yp ki le go mk cb mb ml la ps pd pt kw kh kf kz ky th pl md cr gc lc lr wh od tg tr so bd wo be f (bk_acc ob s i) (nI i)
  | 0, i, _, h => by omega
  | f + 1, i, h1, h2 => by
    by_cases e : i = n
    · subst e; exact hend f
    · have e2 : 240 * nI s + nI i = nI (240 * s + i) := by rw [bn_mul2, nI_add]
      have c2 : (nI (240 * s + i)).toNatClampNeg = 240 * s + i := nI_clamp (by omega)
      refine br_f (nI_ge (by omega) (by omega)) ?_
      rw [e2, c2]
      exact ⟨vp_in_nI (by omega) (by omega), nm_e (nm_r (nI_1 i) (yk_t38 hs hn hend f (i + 1) (by omega) (by omega)))⟩
end PUB2
theorem i_vc_shut {k : Nat} {u : SX} {v : SY} (I : i_Rel k u v) (hk : k + 5 ≤ 2560) (v1 : Int32) : wpX_shut (fun r u' => wpY_shut (fun r' v' => r' = r ∧ i_Rel (k + 5) u' v') v v1) u v1 := by
  obtain ⟨A, g, px, st, lf, cd, bg, gv, ob, ol, pb, pn, xp, fh, fl, fa, mk, cb, mi, mb, ml, pa, kb, kl, kc, th, pl, md, cr, hc, hg, hi, ib, il, it, qi, qc, gc, lc, lr, co, fr, en, ma, wr, ta, yp, ki, le, go, la, ps, pd, pt, kw, kh, kf, kz, ky, wh, od, tg, tr, so, bd, wo, be, rfl, rfl, h⟩ := I
  have same : i_Rel (k + 5) (px, st, lf, cd, bg, gv, ob, ol, pb, pn, xp, fh, fl, fa, mk, cb, mi, mb, ml, pa, kb, kl, kc, th, pl, md, cr, hc, hg, hi, ib, il, it, qi, qc, gc, lc, lr, co) (fr, en, ma, wr, st, lf, cd, ta, bg, kc, ob, ol, pb, pn, yp, ki, le, go, mk, cb, mb, ml, la, ps, pd, pt, kw, kh, kf, kz, ky, th, pl, md, cr, gc, lc, lr, wh, od, tg, tr, so, bd, wo, be) := ⟨A, g, px, st, lf, cd, bg, gv, ob, ol, pb, pn, xp, fh, fl, fa, mk, cb, mi, mb, ml, pa, kb, kl, kc, th, pl, md, cr, hc, hg, hi, ib, il, it, qi, qc, gc, lc, lr, co, fr, en, ma, wr, ta, yp, ki, le, go, la, ps, pd, pt, kw, kh, kf, kz, ky, wh, od, tg, tr, so, bd, wo, be, rfl, rfl, bk_S_mono h (by omega)⟩
  unfold wpX_shut
  rcases pk_ix v1 (n := 4) (by omega) with a | a | ⟨s, hs, rfl⟩
  · refine xk_isS0 (Or.inl a) (br_t rfl ?_)
    unfold wpY_shut
    exact yk_in0 (N := 4) (Or.inl a) (br_t rfl ⟨rfl, same⟩)
  · refine xk_isS0 (Or.inr a) (br_t rfl ?_)
    unfold wpY_shut
    exact yk_in0 (N := 4) (Or.inr a) (br_t rfl ⟨rfl, same⟩)
  · have cs : (nI s).toNatClampNeg = s := nI_clamp (by omega)
    have i4 : vp_in (nI s) 4 := pk_in s 4 hs
    refine xk_isS1 hs (br_f (by decide) ⟨i4, ?_⟩)
    rw [cs]
    by_cases e : st s = 0
    · refine br_t e ?_
      unfold wpY_shut
      refine yk_in1 (N := 4) hs (by omega) (br_f (by decide) ⟨i4, ?_⟩)
      rw [cs]
      exact br_t e ⟨rfl, same⟩
    · refine br_f e ⟨i4, ?_⟩
      by_cases o : st s = 1
      · obtain ⟨d, h1, th1, x1, y1⟩ := lk_S_ends (ob := ob) (gc := gc) (lc := lc) h.1 hs (fun q hq _ => h.2 q hq) (by omega)
        have h2 := lk_S_clear h1 hs th1
        rw [bk_uu] at h2
        obtain ⟨d2, h3, _, x3, y3⟩ := lk_S_give (ob := zz_ob d) (gc := zz_gc d) (lc := zz_lc d) h2 (by omega)
        refine br_t o (x1 _ ⟨i4, ?_⟩)
        rw [cs, bk_uu]
        refine nm_e ⟨i4, nm_e ⟨i4, nm_e ⟨i4, nm_e ⟨i4, nm_e ⟨i4, nm_e (x3 _ ?_)⟩⟩⟩⟩⟩
        unfold wpY_shut
        refine yk_in1 (N := 4) hs (by omega) (br_f (by decide) ⟨i4, ?_⟩)
        rw [cs]
        refine br_f e ⟨i4, br_t o (y1 _ ⟨i4, ?_⟩)⟩
        rw [cs, bk_uu]
        refine nm_e ⟨i4, nm_e ⟨i4, nm_e ⟨i4, nm_e ⟨i4, nm_e ⟨i4, nm_e (y3 _ ⟨rfl, ?_⟩)⟩⟩⟩⟩⟩
        exact ⟨zz_A d2, zz_g d2, px, upd st s (nI 0), upd lf s 0, upd cd s 0, upd bg s 0, zz_gv d2, zz_ob d2, zz_ol d2, pb, upd pn s 0, upd xp s 0, fh, fl, fa, mk, cb, upd mi s 0, mb, upd ml s 0, pa, kb, kl, upd kc s 0, zz_th d2, pl, md, cr, zz_hc d2, zz_hg d2, zz_hi d2, zz_ib d2, zz_il d2, zz_it d2, zz_qi d2, zz_qc d2, zz_gc d2, zz_lc d2, zz_lr d2, co, zz_fr d2, zz_en d2, ma, wr, zz_ta d2, upd yp s 0, ki, le, go, la, ps, pd, upd pt s 0, kw, kh, kf, kz, ky, zz_wh d2, zz_od d2, zz_tg d2, zz_tr d2, zz_so d2, zz_bd d2, wo, be, rfl, rfl, bk_S_mono h3 (by omega)⟩
      · have hth : ∀ r, r < 16 → r / 4 = s → th r = 0 := by
          rcases h.1.2.2.2.2.2.2.1 s hs with w | w
          · exact absurd w o
          · exact w
        have h2 := lk_S_clear h hs hth
        obtain ⟨d2, h3, _, x3, y3⟩ := lk_S_give (ob := ob) (gc := gc) (lc := lc) h2 (by omega)
        refine br_f o ⟨i4, ?_⟩
        rw [cs]
        refine nm_e ⟨i4, nm_e ⟨i4, nm_e ⟨i4, nm_e ⟨i4, nm_e ⟨i4, nm_e (x3 _ ?_)⟩⟩⟩⟩⟩
        unfold wpY_shut
        refine yk_in1 (N := 4) hs (by omega) (br_f (by decide) ⟨i4, ?_⟩)
        rw [cs]
        refine br_f e ⟨i4, br_f o ⟨i4, ?_⟩⟩
        rw [cs]
        refine nm_e ⟨i4, nm_e ⟨i4, nm_e ⟨i4, nm_e ⟨i4, nm_e ⟨i4, nm_e (y3 _ ⟨rfl, ?_⟩)⟩⟩⟩⟩⟩
        exact ⟨zz_A d2, zz_g d2, px, upd st s (nI 0), upd lf s 0, upd cd s 0, bg, zz_gv d2, zz_ob d2, zz_ol d2, pb, upd pn s 0, xp, fh, fl, fa, mk, cb, mi, mb, ml, pa, kb, kl, kc, zz_th d2, pl, md, cr, zz_hc d2, zz_hg d2, zz_hi d2, zz_ib d2, zz_il d2, zz_it d2, zz_qi d2, zz_qc d2, zz_gc d2, zz_lc d2, zz_lr d2, co, zz_fr d2, zz_en d2, ma, wr, zz_ta d2, yp, ki, le, go, la, ps, pd, pt, kw, kh, kf, kz, ky, zz_wh d2, zz_od d2, zz_tg d2, zz_tr d2, zz_so d2, zz_bd d2, wo, be, rfl, rfl, bk_S_mono h3 (by omega)⟩
theorem i_vc_take {k : Nat} {u : SX} {v : SY} (I : i_Rel k u v) (hk : k + 5 ≤ 2560) (v1 : Int32) (v2 : Int32) : wpX_take (fun r u' => wpY_take (fun r' v' => r' = r ∧ i_Rel (k + 5) u' v') v v1 v2) u v1 v2 := by
  obtain ⟨A, g, px, st, lf, cd, bg, gv, ob, ol, pb, pn, xp, fh, fl, fa, mk, cb, mi, mb, ml, pa, kb, kl, kc, th, pl, md, cr, hc, hg, hi, ib, il, it, qi, qc, gc, lc, lr, co, fr, en, ma, wr, ta, yp, ki, le, go, la, ps, pd, pt, kw, kh, kf, kz, ky, wh, od, tg, tr, so, bd, wo, be, rfl, rfl, h⟩ := I
  have same : i_Rel (k + 5) (px, st, lf, cd, bg, gv, ob, ol, pb, pn, xp, fh, fl, fa, mk, cb, mi, mb, ml, pa, kb, kl, kc, th, pl, md, cr, hc, hg, hi, ib, il, it, qi, qc, gc, lc, lr, co) (fr, en, ma, wr, st, lf, cd, ta, bg, kc, ob, ol, pb, pn, yp, ki, le, go, mk, cb, mb, ml, la, ps, pd, pt, kw, kh, kf, kz, ky, th, pl, md, cr, gc, lc, lr, wh, od, tg, tr, so, bd, wo, be) := ⟨A, g, px, st, lf, cd, bg, gv, ob, ol, pb, pn, xp, fh, fl, fa, mk, cb, mi, mb, ml, pa, kb, kl, kc, th, pl, md, cr, hc, hg, hi, ib, il, it, qi, qc, gc, lc, lr, co, fr, en, ma, wr, ta, yp, ki, le, go, la, ps, pd, pt, kw, kh, kf, kz, ky, wh, od, tg, tr, so, bd, wo, be, rfl, rfl, bk_S_mono h (by omega)⟩
  unfold wpX_take
  rcases pk_ix v1 (n := 4) (by omega) with a | a | ⟨s, hs, rfl⟩
  · refine xk_isS0 (Or.inl a) (br_t rfl ?_)
    unfold wpY_take
    exact yk_in0 (N := 4) (Or.inl a) (br_t rfl ⟨rfl, same⟩)
  · refine xk_isS0 (Or.inr a) (br_t rfl ?_)
    unfold wpY_take
    exact yk_in0 (N := 4) (Or.inr a) (br_t rfl ⟨rfl, same⟩)
  · have cs : (nI s).toNatClampNeg = s := nI_clamp (by omega)
    have i4 : vp_in (nI s) 4 := pk_in s 4 hs
    refine xk_isS1 hs (br_f (by decide) ?_)
    rcases iv_x (x := v2) (K := 7) (by omega) with bad | ⟨n, hn1, hn7, rfl⟩
    · have yb : wpY_take (fun r' v' => r' = -1 ∧ i_Rel (k + 5) (px, st, lf, cd, bg, gv, ob, ol, pb, pn, xp, fh, fl, fa, mk, cb, mi, mb, ml, pa, kb, kl, kc, th, pl, md, cr, hc, hg, hi, ib, il, it, qi, qc, gc, lc, lr, co) v') (fr, en, ma, wr, st, lf, cd, ta, bg, kc, ob, ol, pb, pn, yp, ki, le, go, mk, cb, mb, ml, la, ps, pd, pt, kw, kh, kf, kz, ky, th, pl, md, cr, gc, lc, lr, wh, od, tg, tr, so, bd, wo, be) (nI s) v2 := by
        unfold wpY_take
        exact yk_in1 (N := 4) hs (by omega) (br_f (by decide) (yk_in0 (N := 7) (iv_n (by omega) bad) (br_t rfl ⟨rfl, same⟩)))
      refine br_c (fun _ => yb) (fun q => br_t ?_ yb)
      rcases bad with w | w
      · exact absurd w q
      · exact w
    · obtain ⟨_, _, _, ⟨a, ha, ea⟩, _⟩ := h.1.1.2.2.2.1 s hs
      have e1 : nI n - 1 = nI (n - 1) := pk_sub (a := n) (b := 1) hn1
      refine br_f (nI_nlt (b := 1) hn1 (by omega)) (br_f (nI_nlt (a := 7) hn7 (by omega)) ⟨i4, ?_⟩)
      rw [cs, ea]
      refine pk_le n a (fun gg => ?_) (fun gg => ?_)
      · have e240 : nI s * 240 = nI (240 * s) := by rw [bn_mul, Nat.mul_comm]
        have y240 : 240 * nI s = nI (240 * s) := bn_mul2 s 240
        have es : nI a - nI n = nI (a - n) := pk_sub gg
        have hS : bk_S (1000 * k) A g st (upd ol s (nI (a - n))) th pl md cr lr gv ib il it qi qc ta wh od tg tr so bd fr en hc hg hi kc kb kl kw kh kf kz ky mk cb mb pb pn bg be ml xp fh fl fa mi yp ki le go la ps pd pt := ⟨⟨dk_ol h.1.1 (by omega), h.1.2⟩, h.2⟩
        obtain ⟨d, h3, _, x3, y3⟩ := lk_S_give (ob := bk_shn ob (240 * s) n (a - n)) (gc := gc) (lc := lc) hS (by omega)
        refine nm_r e240 ⟨n + 1, xk_t45 hs hn7 (fun f => br_t (nI_le (Nat.le_refl _) (by omega)) ⟨i4, ?_⟩) (n + 1) 0 (by omega) (by omega)⟩
        rw [cs, ea]
        refine nm_r es ⟨a - n + 1, ?_⟩
        have w := xk_t91 (post := fun r u' => wpY_take (fun r' v' => r' = r ∧ i_Rel (k + 5) u' v') (fr, en, ma, wr, st, lf, cd, ta, bg, kc, ob, ol, pb, pn, yp, ki, le, go, mk, cb, mb, ml, la, ps, pd, pt, kw, kh, kf, kz, ky, th, pl, md, cr, gc, lc, lr, wh, od, tg, tr, so, bd, wo, be) (nI s) (nI n)) (s := s) (n := n) (a := a - n) (x4 := bk_acc ob s n) (ob := ob) (ol := ol) (px := px) (st := st) (lf := lf) (cd := cd) (bg := bg) (gv := gv) (pb := pb) (pn := pn) (xp := xp) (fh := fh) (fl := fl) (fa := fa) (mk := mk) (cb := cb) (mi := mi) (mb := mb) (ml := ml) (pa := pa) (kb := kb) (kl := kl) (kc := kc) (th := th) (pl := pl) (md := md) (cr := cr) (hc := hc) (hg := hg) (hi := hi) (ib := ib) (il := il) (it := it) (qi := qi) (qc := qc) (gc := gc) (lc := lc) (lr := lr) (co := co) hs (by omega) (x3 _ (by
          show wpY_take _ _ _ _
          unfold wpY_take
          refine yk_in1 (N := 4) hs (by omega) (br_f (by decide) ?_)
          rw [e1]
          refine yk_in1 (N := 7) (by omega) (by omega) (br_f (by decide) ⟨i4, ?_⟩)
          rw [cs, ea]
          refine br_t (nI_le gg (by omega)) ⟨n + 1, yk_t38 hs hn7 (fun f => br_t (nI_le (Nat.le_refl _) (by omega)) ⟨i4, i4, ?_⟩) (n + 1) 0 (by omega) (by omega)⟩
          rw [cs, ea, es]
          refine nm_e (nm_r y240 ⟨a - n + 1, ?_⟩)
          have wy := yk_t90 (post := fun r' v' => r' = bk_acc ob s n ∧ i_Rel (k + 5) (px, st, lf, cd, bg, zz_gv d, zz_ob d, zz_ol d, pb, pn, xp, fh, fl, fa, mk, cb, mi, mb, ml, pa, kb, kl, kc, zz_th d, pl, md, cr, zz_hc d, zz_hg d, zz_hi d, zz_ib d, zz_il d, zz_it d, zz_qi d, zz_qc d, zz_gc d, zz_lc d, zz_lr d, co) v') (s := s) (n := n) (a := a - n) (x3 := bk_acc ob s n) (ol := upd ol s (nI (a - n))) (st := st) (lf := lf) (cd := cd) (bg := bg) (ob := ob) (pb := pb) (pn := pn) (mk := mk) (cb := cb) (mb := mb) (ml := ml) (kc := kc) (th := th) (pl := pl) (md := md) (cr := cr) (gc := gc) (lc := lc) (lr := lr) (fr := fr) (en := en) (ma := ma) (wr := wr) (ta := ta) (yp := yp) (ki := ki) (le := le) (go := go) (la := la) (ps := ps) (pd := pd) (pt := pt) (kw := kw) (kh := kh) (kf := kf) (kz := kz) (ky := ky) (wh := wh) (od := od) (tg := tg) (tr := tr) (so := so) (bd := bd) (wo := wo) (be := be) hs (by omega) pk_us (y3 _ ⟨rfl, zz_A d, zz_g d, px, st, lf, cd, bg, zz_gv d, zz_ob d, zz_ol d, pb, pn, xp, fh, fl, fa, mk, cb, mi, mb, ml, pa, kb, kl, kc, zz_th d, pl, md, cr, zz_hc d, zz_hg d, zz_hi d, zz_ib d, zz_il d, zz_it d, zz_qi d, zz_qc d, zz_gc d, zz_lc d, zz_lr d, co, zz_fr d, zz_en d, ma, wr, zz_ta d, yp, ki, le, go, la, ps, pd, pt, kw, kh, kf, kz, ky, zz_wh d, zz_od d, zz_tg d, zz_tr d, zz_so d, zz_bd d, wo, be, rfl, rfl, bk_S_mono h3 (by omega)⟩) (a - n + 1) 0 (by omega) (by omega)
          have z0 : bk_shn ob (240 * s) n 0 = ob := bk_shn_0 ob (240 * s) n
          rw [z0] at wy
          exact wy)) (a - n + 1) 0 (by omega) (by omega)
        have z0 : bk_shn ob (240 * s) n 0 = ob := bk_shn_0 ob (240 * s) n
        rw [z0] at w
        exact w
      · unfold wpY_take
        refine yk_in1 (N := 4) hs (by omega) (br_f (by decide) ?_)
        rw [e1]
        refine yk_in1 (N := 7) (by omega) (by omega) (br_f (by decide) ⟨i4, ?_⟩)
        rw [cs, ea]
        exact br_f (nI_ge gg (by omega)) ⟨rfl, same⟩
theorem i_vc_output {k : Nat} {u : SX} {v : SY} (I : i_Rel k u v) (hk : k + 5 ≤ 2560) (v1 : Int32) (v2 : Int32) : wpX_output (fun r => wpY_output (fun r' => r' = r ∧ i_Rel (k + 5) u v) v v1 v2) u v1 v2 := by
  obtain ⟨A, g, px, st, lf, cd, bg, gv, ob, ol, pb, pn, xp, fh, fl, fa, mk, cb, mi, mb, ml, pa, kb, kl, kc, th, pl, md, cr, hc, hg, hi, ib, il, it, qi, qc, gc, lc, lr, co, fr, en, ma, wr, ta, yp, ki, le, go, la, ps, pd, pt, kw, kh, kf, kz, ky, wh, od, tg, tr, so, bd, wo, be, rfl, rfl, h⟩ := I
  have same : i_Rel (k + 5) (px, st, lf, cd, bg, gv, ob, ol, pb, pn, xp, fh, fl, fa, mk, cb, mi, mb, ml, pa, kb, kl, kc, th, pl, md, cr, hc, hg, hi, ib, il, it, qi, qc, gc, lc, lr, co) (fr, en, ma, wr, st, lf, cd, ta, bg, kc, ob, ol, pb, pn, yp, ki, le, go, mk, cb, mb, ml, la, ps, pd, pt, kw, kh, kf, kz, ky, th, pl, md, cr, gc, lc, lr, wh, od, tg, tr, so, bd, wo, be) := ⟨A, g, px, st, lf, cd, bg, gv, ob, ol, pb, pn, xp, fh, fl, fa, mk, cb, mi, mb, ml, pa, kb, kl, kc, th, pl, md, cr, hc, hg, hi, ib, il, it, qi, qc, gc, lc, lr, co, fr, en, ma, wr, ta, yp, ki, le, go, la, ps, pd, pt, kw, kh, kf, kz, ky, wh, od, tg, tr, so, bd, wo, be, rfl, rfl, bk_S_mono h (by omega)⟩
  unfold wpX_output
  rcases pk_ix v1 (n := 4) (by omega) with a | a | ⟨s, hs, rfl⟩
  · refine xk_isS0 (Or.inl a) (br_t rfl ?_)
    unfold wpY_output
    exact yk_in0 (N := 4) (Or.inl a) (br_t rfl ⟨rfl, same⟩)
  · refine xk_isS0 (Or.inr a) (br_t rfl ?_)
    unfold wpY_output
    exact yk_in0 (N := 4) (Or.inr a) (br_t rfl ⟨rfl, same⟩)
  · have cs : (nI s).toNatClampNeg = s := nI_clamp (by omega)
    have i4 : vp_in (nI s) 4 := pk_in s 4 hs
    obtain ⟨_, _, _, ⟨a, ha, ea⟩, _⟩ := h.1.1.2.2.2.1 s hs
    refine xk_isS1 hs (br_f (by decide) ?_)
    rcases pk_ix v2 (n := a) (by omega) with q | q | ⟨j, hj, rfl⟩
    · refine br_t q ?_
      unfold wpY_output
      refine yk_in1 (N := 4) hs (by omega) (br_f (by decide) ⟨i4, ?_⟩)
      rw [cs, ea]
      exact yk_in0 (Or.inl q) (br_t rfl ⟨rfl, same⟩)
    · have yb : wpY_output (fun r' => r' = -1 ∧ i_Rel (k + 5) (px, st, lf, cd, bg, gv, ob, ol, pb, pn, xp, fh, fl, fa, mk, cb, mi, mb, ml, pa, kb, kl, kc, th, pl, md, cr, hc, hg, hi, ib, il, it, qi, qc, gc, lc, lr, co) (fr, en, ma, wr, st, lf, cd, ta, bg, kc, ob, ol, pb, pn, yp, ki, le, go, mk, cb, mb, ml, la, ps, pd, pt, kw, kh, kf, kz, ky, th, pl, md, cr, gc, lc, lr, wh, od, tg, tr, so, bd, wo, be)) (fr, en, ma, wr, st, lf, cd, ta, bg, kc, ob, ol, pb, pn, yp, ki, le, go, mk, cb, mb, ml, la, ps, pd, pt, kw, kh, kf, kz, ky, th, pl, md, cr, gc, lc, lr, wh, od, tg, tr, so, bd, wo, be) (nI s) v2 := by
        unfold wpY_output
        refine yk_in1 (N := 4) hs (by omega) (br_f (by decide) ⟨i4, ?_⟩)
        rw [cs, ea]
        exact yk_in0 (Or.inr q) (br_t rfl ⟨rfl, same⟩)
      refine br_c (fun _ => yb) (fun _ => ⟨i4, ?_⟩)
      rw [cs, ea]
      exact br_f (Int32.not_lt.mpr q) yb
    · have e1 : nI s * 240 + nI j = nI (240 * s + j) := by rw [bn_mul, nI_add, Nat.mul_comm]
      have e2 : 240 * nI s + nI j = nI (240 * s + j) := by rw [bn_mul2, nI_add]
      refine br_f (nI_pos (by omega)) ⟨i4, ?_⟩
      rw [cs, ea, e1]
      refine br_t (nI_lt hj (by omega)) ⟨vp_in_nI (by omega) (by omega), ?_⟩
      unfold wpY_output
      refine yk_in1 (N := 4) hs (by omega) (br_f (by decide) ⟨i4, ?_⟩)
      rw [cs, ea]
      refine yk_in1 hj (by omega) (br_f (by decide) ?_)
      rw [e2]
      exact ⟨vp_in_nI (by omega) (by omega), rfl, same⟩
theorem i_vc_past {k : Nat} {u : SX} {v : SY} (I : i_Rel k u v) (hk : k + 5 ≤ 2560) (v1 : Int32) (v2 : Int32) : wpX_past (fun r => wpY_past (fun r' => r' = r ∧ i_Rel (k + 5) u v) v v1 v2) u v1 v2 := by
  obtain ⟨A, g, px, st, lf, cd, bg, gv, ob, ol, pb, pn, xp, fh, fl, fa, mk, cb, mi, mb, ml, pa, kb, kl, kc, th, pl, md, cr, hc, hg, hi, ib, il, it, qi, qc, gc, lc, lr, co, fr, en, ma, wr, ta, yp, ki, le, go, la, ps, pd, pt, kw, kh, kf, kz, ky, wh, od, tg, tr, so, bd, wo, be, rfl, rfl, h⟩ := I
  have same : i_Rel (k + 5) (px, st, lf, cd, bg, gv, ob, ol, pb, pn, xp, fh, fl, fa, mk, cb, mi, mb, ml, pa, kb, kl, kc, th, pl, md, cr, hc, hg, hi, ib, il, it, qi, qc, gc, lc, lr, co) (fr, en, ma, wr, st, lf, cd, ta, bg, kc, ob, ol, pb, pn, yp, ki, le, go, mk, cb, mb, ml, la, ps, pd, pt, kw, kh, kf, kz, ky, th, pl, md, cr, gc, lc, lr, wh, od, tg, tr, so, bd, wo, be) := ⟨A, g, px, st, lf, cd, bg, gv, ob, ol, pb, pn, xp, fh, fl, fa, mk, cb, mi, mb, ml, pa, kb, kl, kc, th, pl, md, cr, hc, hg, hi, ib, il, it, qi, qc, gc, lc, lr, co, fr, en, ma, wr, ta, yp, ki, le, go, la, ps, pd, pt, kw, kh, kf, kz, ky, wh, od, tg, tr, so, bd, wo, be, rfl, rfl, bk_S_mono h (by omega)⟩
  unfold wpX_past
  rcases pk_ix v1 (n := 4) (by omega) with a | a | ⟨s, hs, rfl⟩
  · refine xk_isS0 (Or.inl a) (br_t rfl ?_)
    unfold wpY_past
    exact yk_in0 (N := 4) (Or.inl a) (br_t rfl ⟨rfl, same⟩)
  · refine xk_isS0 (Or.inr a) (br_t rfl ?_)
    unfold wpY_past
    exact yk_in0 (N := 4) (Or.inr a) (br_t rfl ⟨rfl, same⟩)
  · have cs : (nI s).toNatClampNeg = s := nI_clamp (by omega)
    have i4 : vp_in (nI s) 4 := pk_in s 4 hs
    obtain ⟨a, ha, ea⟩ := h.1.2.2.2.2.1 s hs
    refine xk_isS1 hs (br_f (by decide) ?_)
    rcases pk_ix v2 (n := a) (by omega) with q | q | ⟨j, hj, rfl⟩
    · refine br_t q ?_
      unfold wpY_past
      refine yk_in1 (N := 4) hs (by omega) (br_f (by decide) ⟨i4, ?_⟩)
      rw [cs, ea]
      exact yk_in0 (Or.inl q) (br_t rfl ⟨rfl, same⟩)
    · have yb : wpY_past (fun r' => r' = -1 ∧ i_Rel (k + 5) (px, st, lf, cd, bg, gv, ob, ol, pb, pn, xp, fh, fl, fa, mk, cb, mi, mb, ml, pa, kb, kl, kc, th, pl, md, cr, hc, hg, hi, ib, il, it, qi, qc, gc, lc, lr, co) (fr, en, ma, wr, st, lf, cd, ta, bg, kc, ob, ol, pb, pn, yp, ki, le, go, mk, cb, mb, ml, la, ps, pd, pt, kw, kh, kf, kz, ky, th, pl, md, cr, gc, lc, lr, wh, od, tg, tr, so, bd, wo, be)) (fr, en, ma, wr, st, lf, cd, ta, bg, kc, ob, ol, pb, pn, yp, ki, le, go, mk, cb, mb, ml, la, ps, pd, pt, kw, kh, kf, kz, ky, th, pl, md, cr, gc, lc, lr, wh, od, tg, tr, so, bd, wo, be) (nI s) v2 := by
        unfold wpY_past
        refine yk_in1 (N := 4) hs (by omega) (br_f (by decide) ⟨i4, ?_⟩)
        rw [cs, ea]
        exact yk_in0 (Or.inr q) (br_t rfl ⟨rfl, same⟩)
      refine br_c (fun _ => yb) (fun _ => ⟨i4, ?_⟩)
      rw [cs, ea]
      exact br_f (Int32.not_lt.mpr q) yb
    · have e1 : nI s * 64 + nI a - 1 - nI j = nI (64 * s + a - 1 - j) := by
        rw [bn_mul, nI_add, Nat.mul_comm]
        have : nI (64 * s + a) - 1 = nI (64 * s + a - 1) := pk_sub (a := 64 * s + a) (b := 1) (by omega)
        rw [this, pk_sub (by omega)]
      have e2 : 64 * nI s + nI a - 1 - nI j = nI (64 * s + a - 1 - j) := by
        rw [bn_mul2, nI_add]
        have : nI (64 * s + a) - 1 = nI (64 * s + a - 1) := pk_sub (a := 64 * s + a) (b := 1) (by omega)
        rw [this, pk_sub (by omega)]
      refine br_f (nI_pos (by omega)) ⟨i4, ?_⟩
      rw [cs, ea, e1]
      refine br_t (nI_lt hj (by omega)) ⟨i4, vp_in_nI (by omega) (by omega), ?_⟩
      unfold wpY_past
      refine yk_in1 (N := 4) hs (by omega) (br_f (by decide) ⟨i4, ?_⟩)
      rw [cs, ea]
      refine yk_in1 hj (by omega) (br_f (by decide) ⟨i4, ?_⟩)
      rw [e2]
      exact ⟨vp_in_nI (by omega) (by omega), rfl, same⟩
theorem i_vc_session {k : Nat} {u : SX} {v : SY} (I : i_Rel k u v) (hk : k + 5 ≤ 2560) (v1 : Int32) (v2 : Int32) : wpX_session (fun r => wpY_session (fun r' => r' = r ∧ i_Rel (k + 5) u v) v v1 v2) u v1 v2 := by
  obtain ⟨A, g, px, st, lf, cd, bg, gv, ob, ol, pb, pn, xp, fh, fl, fa, mk, cb, mi, mb, ml, pa, kb, kl, kc, th, pl, md, cr, hc, hg, hi, ib, il, it, qi, qc, gc, lc, lr, co, fr, en, ma, wr, ta, yp, ki, le, go, la, ps, pd, pt, kw, kh, kf, kz, ky, wh, od, tg, tr, so, bd, wo, be, rfl, rfl, h⟩ := I
  have same : i_Rel (k + 5) (px, st, lf, cd, bg, gv, ob, ol, pb, pn, xp, fh, fl, fa, mk, cb, mi, mb, ml, pa, kb, kl, kc, th, pl, md, cr, hc, hg, hi, ib, il, it, qi, qc, gc, lc, lr, co) (fr, en, ma, wr, st, lf, cd, ta, bg, kc, ob, ol, pb, pn, yp, ki, le, go, mk, cb, mb, ml, la, ps, pd, pt, kw, kh, kf, kz, ky, th, pl, md, cr, gc, lc, lr, wh, od, tg, tr, so, bd, wo, be) := ⟨A, g, px, st, lf, cd, bg, gv, ob, ol, pb, pn, xp, fh, fl, fa, mk, cb, mi, mb, ml, pa, kb, kl, kc, th, pl, md, cr, hc, hg, hi, ib, il, it, qi, qc, gc, lc, lr, co, fr, en, ma, wr, ta, yp, ki, le, go, la, ps, pd, pt, kw, kh, kf, kz, ky, wh, od, tg, tr, so, bd, wo, be, rfl, rfl, bk_S_mono h (by omega)⟩
  unfold wpX_session
  rcases pk_ix v1 (n := 4) (by omega) with a | a | ⟨s, hs, rfl⟩
  · refine xk_isS0 (Or.inl a) (br_t rfl ?_)
    unfold wpY_session
    exact yk_in0 (N := 4) (Or.inl a) (br_t rfl ⟨rfl, same⟩)
  · refine xk_isS0 (Or.inr a) (br_t rfl ?_)
    unfold wpY_session
    exact yk_in0 (N := 4) (Or.inr a) (br_t rfl ⟨rfl, same⟩)
  · have cs : (nI s).toNatClampNeg = s := nI_clamp (by omega)
    have i4 : vp_in (nI s) 4 := pk_in s 4 hs
    obtain ⟨g1, g2, g3, _⟩ := h.1.1.2.2.2.1 s hs
    refine xk_isS1 hs (br_f (by decide) ?_)
    rcases pk_ix v2 (n := 8) (by omega) with q | q | ⟨j, hj, rfl⟩
    · refine br_t q ?_
      unfold wpY_session
      exact yk_in1 (N := 4) hs (by omega) (br_f (by decide) (br_t q ⟨rfl, same⟩))
    · have q0 : ¬ v2 < 0 := fun z => by
        rw [Int32.lt_iff_toInt_lt, show (0 : Int32).toInt = 0 from by decide] at z
        rw [Int32.le_iff_toInt_le, nI_toInt (by omega)] at q
        omega
      have q7 : 7 < v2 := by
        rw [Int32.le_iff_toInt_le, nI_toInt (by omega)] at q
        rw [Int32.lt_iff_toInt_lt, show (7 : Int32).toInt = 7 from by decide]
        omega
      refine br_f q0 (br_t q7 ?_)
      unfold wpY_session
      exact yk_in1 (N := 4) hs (by omega) (br_f (by decide) (br_f q0 (br_t q7 ⟨rfl, same⟩)))
    · have jj : j = 0 ∨ j = 1 ∨ j = 2 ∨ j = 3 ∨ j = 4 ∨ j = 5 ∨ j = 6 ∨ j = 7 := by omega
      rcases jj with rfl | rfl | rfl | rfl | rfl | rfl | rfl | rfl
      · refine br_f (by decide) (br_f (by decide) (br_t rfl (⟨i4, ?_⟩)))
        unfold wpY_session
        exact yk_in1 (N := 4) hs (by omega) (br_f (by decide) (br_f (by decide) (br_f (by decide) (br_t rfl (⟨i4, rfl, same⟩)))))
      · refine br_f (by decide) (br_f (by decide) (br_f (by decide) (br_t rfl (⟨i4, ?_⟩))))
        unfold wpY_session
        exact yk_in1 (N := 4) hs (by omega) (br_f (by decide) (br_f (by decide) (br_f (by decide) (br_f (by decide) (br_t rfl (⟨i4, rfl, same⟩))))))
      · refine br_f (by decide) (br_f (by decide) (br_f (by decide) (br_f (by decide) (br_t rfl (⟨i4, ?_⟩)))))
        unfold wpY_session
        exact yk_in1 (N := 4) hs (by omega) (br_f (by decide) (br_f (by decide) (br_f (by decide) (br_f (by decide) (br_f (by decide) (br_t rfl (⟨i4, rfl, same⟩)))))))
      · refine br_f (by decide) (br_f (by decide) (br_f (by decide) (br_f (by decide) (br_f (by decide) (br_t rfl (⟨i4, ?_⟩))))))
        unfold wpY_session
        exact yk_in1 (N := 4) hs (by omega) (br_f (by decide) (br_f (by decide) (br_f (by decide) (br_f (by decide) (br_f (by decide) (br_f (by decide) (br_t rfl (⟨i4, rfl, same⟩))))))))
      · refine br_f (by decide) (br_f (by decide) (br_f (by decide) (br_f (by decide) (br_f (by decide) (br_f (by decide) (br_t rfl (⟨i4, ?_⟩)))))))
        unfold wpY_session
        exact yk_in1 (N := 4) hs (by omega) (br_f (by decide) (br_f (by decide) (br_f (by decide) (br_f (by decide) (br_f (by decide) (br_f (by decide) (br_f (by decide) (br_t rfl (⟨i4, rfl, same⟩)))))))))
      · refine br_f (by decide) (br_f (by decide) (br_f (by decide) (br_f (by decide) (br_f (by decide) (br_f (by decide) (br_f (by decide) (br_t rfl (⟨i4, ?_⟩))))))))
        rw [cs, g1, bn_255 _ (by omega)]
        unfold wpY_session
        refine yk_in1 (N := 4) hs (by omega) (br_f (by decide) (br_f (by decide) (br_f (by decide) (br_f (by decide) (br_f (by decide) (br_f (by decide) (br_f (by decide) (br_f (by decide) (br_t rfl (⟨i4, ?_⟩))))))))))
        rw [cs, g2]
        exact ⟨rfl, same⟩
      · refine br_f (by decide) (br_f (by decide) (br_f (by decide) (br_f (by decide) (br_f (by decide) (br_f (by decide) (br_f (by decide) (br_f (by decide) (br_t rfl (⟨i4, ?_⟩)))))))))
        unfold wpY_session
        exact yk_in1 (N := 4) hs (by omega) (br_f (by decide) (br_f (by decide) (br_f (by decide) (br_f (by decide) (br_f (by decide) (br_f (by decide) (br_f (by decide) (br_f (by decide) (br_f (by decide) (br_t rfl (⟨i4, rfl, same⟩)))))))))))
      · refine br_f (by decide) (br_f (by decide) (br_f (by decide) (br_f (by decide) (br_f (by decide) (br_f (by decide) (br_f (by decide) (br_f (by decide) (br_f (by decide) (br_t rfl (⟨i4, ?_⟩))))))))))
        unfold wpY_session
        exact yk_in1 (N := 4) hs (by omega) (br_f (by decide) (br_f (by decide) (br_f (by decide) (br_f (by decide) (br_f (by decide) (br_f (by decide) (br_f (by decide) (br_f (by decide) (br_f (by decide) (br_f (by decide) (br_t rfl (⟨i4, rfl, same⟩))))))))))))
