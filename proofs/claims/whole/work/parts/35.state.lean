/-! the whole relation -/
def bk_S0 (B : Nat) (A : Nat → List bk_E) (g : Nat → Nat) (st ol th pl md cr lr gv ib il it qi qc ta wh od tg tr so bd : Nat → Int32) (fr en : Int32) (hc hg hi kc kb kl kw kh kf kz ky mk cb mb pb pn bg be : Nat → Int32) : Prop :=
  bk_C B A g st ol th pl md cr lr gv ib il it qi qc ta wh od tg tr so bd fr en ∧ bk_RH A hi hg hc ∧ (∀ z, z < 4 → bk_K kc kb kl kw kh kf kz ky z) ∧ (bk_By mk ∧ bk_By cb ∧ bk_By mb ∧ bk_By pb) ∧ (∀ z, z < 4 → ∃ a, a ≤ 64 ∧ pn z = nI a) ∧ (∀ z, z < 4 → ∃ b, b < 4 ∧ bg z = nI b) ∧
  (∀ z, z < 4 → st z = 1 ∨ ∀ r, r < 16 → r / 4 = z → th r = 0) ∧ be 0 = 0
def bk_S (B : Nat) (A : Nat → List bk_E) (g : Nat → Nat) (st ol th pl md cr lr gv ib il it qi qc ta wh od tg tr so bd : Nat → Int32) (fr en : Int32) (hc hg hi kc kb kl kw kh kf kz ky mk cb mb pb pn bg be : Nat → Int32) (ml xp fh fl fa mi yp ki le go la ps pd pt : Nat → Int32) : Prop := bk_S0 B A g st ol th pl md cr lr gv ib il it qi qc ta wh od tg tr so bd fr en hc hg hi kc kb kl kw kh kf kz ky mk cb mb pb pn bg be ∧ ∀ z, z < 4 → bk_F ml xp fh fl fa mi yp ki le go la ps pd pt z
theorem bk_F_of {ml xp fh fl fa mi yp ki le go la ps pd pt ml' xp' fh' fl' fa' mi' yp' ki' le' go' la' ps' pd' pt' : Nat → Int32} {z : Nat} (h : bk_F ml xp fh fl fa mi yp ki le go la ps pd pt z) (e1 : ml' z = ml z) (e2 : xp' z = xp z) (e3 : fh' z = fh z) (e4 : fl' z = fl z) (e5 : fa' z = fa z) (e6 : mi' z = mi z) (e7 : yp' z = yp z) (e8 : ki' z = ki z) (e9 : le' z = le z) (e10 : go' z = go z) (e11 : la' z = la z) (e12 : ps' z = ps z) (e13 : pd' z = pd z) (e14 : pt' z = pt z) : bk_F ml' xp' fh' fl' fa' mi' yp' ki' le' go' la' ps' pd' pt' z := by
  unfold bk_F bk_F1 bk_Mi at *
  rw [e1, e2, e3, e4, e5, e6, e7, e8, e9, e10, e11, e12, e13, e14]
  exact h
/-- a session between frames, with no message -/
theorem bk_F_zero {ml xp fh fl fa mi yp ki le go la ps pd pt : Nat → Int32} {z : Nat} (e1 : ml z = 0) (e2 : xp z = 0) (e3 : yp z = 0) (e4 : mi z = 0) (e5 : pt z = 0) : bk_F ml xp fh fl fa mi yp ki le go la ps pd pt z :=
  ⟨0, by omega, e1, Or.inl ⟨e2, e3, Or.inl ⟨e4, e5⟩⟩⟩
section STATE
variable {B : Nat} {A : Nat → List bk_E} {g : Nat → Nat} {st lf cd bg gv ob ol pb pn xp fh fl fa mk cb mi mb ml pa kb kl kc th pl md cr hc hg hi ib il it qi qc gc lc lr co ta yp ki le go la ps pd pt kw kh kf kz ky wh od tg tr so bd wo be : Nat → Int32} {px fr en ma wr : Int32}
theorem lk_S_fault (h : bk_S0 B A g st ol th pl md cr lr gv ib il it qi qc ta wh od tg tr so bd fr en hc hg hi kc kb kl kw kh kf kz ky mk cb mb pb pn bg be) {s : Nat} (hs : s < 4) (hF : ∀ z, z < 4 → z ≠ s → bk_F ml xp fh fl fa mi yp ki le go la ps pd pt z) (hB : B + 20 ≤ 100000000) (x : Int32) :
    ∃ d : bk_DT, bk_S (B + 20) (zz_A d) (zz_g d) (upd st s (nI 2)) (zz_ol d) (zz_th d) pl md cr (zz_lr d) (zz_gv d) (zz_ib d) (zz_il d) (zz_it d) (zz_qi d) (zz_qc d) (zz_ta d) (zz_wh d) (zz_od d) (zz_tg d) (zz_tr d) (zz_so d) (zz_bd d) (zz_fr d) (zz_en d) (zz_hc d) (zz_hg d) (zz_hi d) (upd kc s 0) kb kl kw kh kf kz ky mk cb mb pb pn (upd bg s 0) be (upd ml s 0) (upd xp s 0) fh fl fa (upd mi s 0) (upd yp s 0) ki le go la ps pd (upd pt s 0) ∧
      (∀ {lf cd bg pb pn xp fh fl fa mk cb mi mb ml pa kb kl kc co : Nat → Int32} {px : Int32} (post : SX → Prop), post (px, upd st s (nI 2), upd lf s x, cd, upd bg s 0, zz_gv d, zz_ob d, zz_ol d, pb, pn, upd xp s 0, fh, fl, fa, mk, cb, upd mi s 0, mb, upd ml s 0, pa, kb, kl, upd kc s 0, zz_th d, pl, md, cr, zz_hc d, zz_hg d, zz_hi d, zz_ib d, zz_il d, zz_it d, zz_qi d, zz_qc d, zz_gc d, zz_lc d, zz_lr d, co) → wpX_fail post (px, st, lf, cd, bg, gv, ob, ol, pb, pn, xp, fh, fl, fa, mk, cb, mi, mb, ml, pa, kb, kl, kc, th, pl, md, cr, hc, hg, hi, ib, il, it, qi, qc, gc, lc, lr, co) (nI s) x) ∧
      (∀ {lf cd bg kc pb pn yp ki le go mk cb mb ml la ps pd pt kw kh kf kz ky wo be : Nat → Int32} {ma wr : Int32} (post : SY → Prop), post (zz_fr d, zz_en d, ma, wr, upd st s (nI 2), upd lf s x, cd, zz_ta d, upd bg s 0, upd kc s 0, zz_ob d, zz_ol d, pb, pn, upd yp s 0, ki, le, go, mk, cb, mb, upd ml s 0, la, ps, pd, upd pt s 0, kw, kh, kf, kz, ky, zz_th d, pl, md, cr, zz_gc d, zz_lc d, zz_lr d, zz_wh d, zz_od d, zz_tg d, zz_tr d, zz_so d, zz_bd d, upd wo 0 x, be) → wpY_faults post (fr, en, ma, wr, st, lf, cd, ta, bg, kc, ob, ol, pb, pn, yp, ki, le, go, mk, cb, mb, ml, la, ps, pd, pt, kw, kh, kf, kz, ky, th, pl, md, cr, gc, lc, lr, wh, od, tg, tr, so, bd, wo, be) (nI s) x) := by
  obtain ⟨h1, h2, h3, h4, h5, h6, h7, h8⟩ := h
  obtain ⟨d, c1, r1, q1, q2, x1, y1⟩ := lk_fault (ob := ob) (gc := gc) (lc := lc) h1 h2 hB hs x
  refine ⟨d, ⟨⟨c1, r1, bk_K_none h3 s, h4, h5, ?_, ?_, h8⟩, ?_⟩, x1, y1⟩
  · intro z hz
    by_cases e : z = s
    · subst e; exact ⟨0, by omega, pk_us⟩
    · rw [pk_un e]; exact h6 z hz
  · intro z hz
    by_cases e : z = s
    · subst e; exact Or.inr q1
    · rw [pk_un e]
      rcases h7 z hz with w | w
      · exact Or.inl w
      · exact Or.inr (fun r hr er => by rw [q2 r (by omega)]; exact w r hr er)
  · intro z hz
    by_cases e : z = s
    · subst e; exact bk_F_zero pk_us pk_us pk_us pk_us pk_us
    · exact bk_F_of (hF z hz e) (pk_un e) (pk_un e) rfl rfl rfl (pk_un e) (pk_un e) rfl rfl rfl rfl rfl rfl (pk_un e)
theorem lk_S_ends (h : bk_S0 B A g st ol th pl md cr lr gv ib il it qi qc ta wh od tg tr so bd fr en hc hg hi kc kb kl kw kh kf kz ky mk cb mb pb pn bg be) {s : Nat} (hs : s < 4) (hF : ∀ z, z < 4 → z ≠ s → bk_F ml xp fh fl fa mi yp ki le go la ps pd pt z) (hB : B + 20 ≤ 100000000) :
    ∃ d : bk_DT, bk_S (B + 20) (zz_A d) (zz_g d) (upd st s (nI 2)) (zz_ol d) (zz_th d) pl md cr (zz_lr d) (zz_gv d) (zz_ib d) (zz_il d) (zz_it d) (zz_qi d) (zz_qc d) (zz_ta d) (zz_wh d) (zz_od d) (zz_tg d) (zz_tr d) (zz_so d) (zz_bd d) (zz_fr d) (zz_en d) (zz_hc d) (zz_hg d) (zz_hi d) (upd kc s 0) kb kl kw kh kf kz ky mk cb mb pb pn (upd bg s 0) be (upd ml s 0) (upd xp s 0) fh fl fa (upd mi s 0) (upd yp s 0) ki le go la ps pd (upd pt s 0) ∧ (∀ r, r < 16 → r / 4 = s → zz_th d r = 0) ∧
      (∀ {lf cd bg pb pn xp fh fl fa mk cb mi mb ml pa kb kl kc co : Nat → Int32} {px : Int32} (post : SX → Prop), post (px, upd st s (nI 2), lf, cd, upd bg s 0, zz_gv d, zz_ob d, zz_ol d, pb, pn, upd xp s 0, fh, fl, fa, mk, cb, upd mi s 0, mb, upd ml s 0, pa, kb, kl, upd kc s 0, zz_th d, pl, md, cr, zz_hc d, zz_hg d, zz_hi d, zz_ib d, zz_il d, zz_it d, zz_qi d, zz_qc d, zz_gc d, zz_lc d, zz_lr d, co) → wpX_endSession post (px, st, lf, cd, bg, gv, ob, ol, pb, pn, xp, fh, fl, fa, mk, cb, mi, mb, ml, pa, kb, kl, kc, th, pl, md, cr, hc, hg, hi, ib, il, it, qi, qc, gc, lc, lr, co) (nI s)) ∧
      (∀ {lf cd bg kc pb pn yp ki le go mk cb mb ml la ps pd pt kw kh kf kz ky wo be : Nat → Int32} {ma wr : Int32} (post : SY → Prop), post (zz_fr d, zz_en d, ma, wr, upd st s (nI 2), lf, cd, zz_ta d, upd bg s 0, upd kc s 0, zz_ob d, zz_ol d, pb, pn, upd yp s 0, ki, le, go, mk, cb, mb, upd ml s 0, la, ps, pd, upd pt s 0, kw, kh, kf, kz, ky, zz_th d, pl, md, cr, zz_gc d, zz_lc d, zz_lr d, zz_wh d, zz_od d, zz_tg d, zz_tr d, zz_so d, zz_bd d, wo, be) → wpY_ends post (fr, en, ma, wr, st, lf, cd, ta, bg, kc, ob, ol, pb, pn, yp, ki, le, go, mk, cb, mb, ml, la, ps, pd, pt, kw, kh, kf, kz, ky, th, pl, md, cr, gc, lc, lr, wh, od, tg, tr, so, bd, wo, be) (nI s)) := by
  obtain ⟨h1, h2, h3, h4, h5, h6, h7, h8⟩ := h
  obtain ⟨d, c1, r1, q1, q2, x1, y1⟩ := lk_ends (ob := ob) (gc := gc) (lc := lc) h1 h2 hB hs
  refine ⟨d, ⟨⟨c1, r1, bk_K_none h3 s, h4, h5, ?_, ?_, h8⟩, ?_⟩, q1, x1, y1⟩
  · intro z hz
    by_cases e : z = s
    · subst e; exact ⟨0, by omega, pk_us⟩
    · rw [pk_un e]; exact h6 z hz
  · intro z hz
    by_cases e : z = s
    · subst e; exact Or.inr q1
    · rw [pk_un e]
      rcases h7 z hz with w | w
      · exact Or.inl w
      · exact Or.inr (fun r hr er => by rw [q2 r (by omega)]; exact w r hr er)
  · intro z hz
    by_cases e : z = s
    · subst e; exact bk_F_zero pk_us pk_us pk_us pk_us pk_us
    · exact bk_F_of (hF z hz e) (pk_un e) (pk_un e) rfl rfl rfl (pk_un e) (pk_un e) rfl rfl rfl rfl rfl rfl (pk_un e)
theorem lk_S_give (h : bk_S B A g st ol th pl md cr lr gv ib il it qi qc ta wh od tg tr so bd fr en hc hg hi kc kb kl kw kh kf kz ky mk cb mb pb pn bg be ml xp fh fl fa mi yp ki le go la ps pd pt) (hB : B + 24 ≤ 100000000) :
    ∃ d : bk_DT, bk_S (B + 24) (zz_A d) (zz_g d) st (zz_ol d) (zz_th d) pl md cr (zz_lr d) (zz_gv d) (zz_ib d) (zz_il d) (zz_it d) (zz_qi d) (zz_qc d) (zz_ta d) (zz_wh d) (zz_od d) (zz_tg d) (zz_tr d) (zz_so d) (zz_bd d) (zz_fr d) (zz_en d) (zz_hc d) (zz_hg d) (zz_hi d) kc kb kl kw kh kf kz ky mk cb mb pb pn bg be ml xp fh fl fa mi yp ki le go la ps pd pt ∧ zz_th d = th ∧ (∀ {lf cd bg pb pn xp fh fl fa mk cb mi mb ml pa kb kl kc co : Nat → Int32} {px : Int32} (post : SX → Prop), post (px, st, lf, cd, bg, zz_gv d, zz_ob d, zz_ol d, pb, pn, xp, fh, fl, fa, mk, cb, mi, mb, ml, pa, kb, kl, kc, zz_th d, pl, md, cr, zz_hc d, zz_hg d, zz_hi d, zz_ib d, zz_il d, zz_it d, zz_qi d, zz_qc d, zz_gc d, zz_lc d, zz_lr d, co) → wpX_giveQueues post (px, st, lf, cd, bg, gv, ob, ol, pb, pn, xp, fh, fl, fa, mk, cb, mi, mb, ml, pa, kb, kl, kc, th, pl, md, cr, hc, hg, hi, ib, il, it, qi, qc, gc, lc, lr, co)) ∧ (∀ {lf cd bg kc pb pn yp ki le go mk cb mb ml la ps pd pt kw kh kf kz ky wo be : Nat → Int32} {ma wr : Int32} (post : SY → Prop), post (zz_fr d, zz_en d, ma, wr, st, lf, cd, zz_ta d, bg, kc, zz_ob d, zz_ol d, pb, pn, yp, ki, le, go, mk, cb, mb, ml, la, ps, pd, pt, kw, kh, kf, kz, ky, zz_th d, pl, md, cr, zz_gc d, zz_lc d, zz_lr d, zz_wh d, zz_od d, zz_tg d, zz_tr d, zz_so d, zz_bd d, wo, be) → wpY_giveAll post (fr, en, ma, wr, st, lf, cd, ta, bg, kc, ob, ol, pb, pn, yp, ki, le, go, mk, cb, mb, ml, la, ps, pd, pt, kw, kh, kf, kz, ky, th, pl, md, cr, gc, lc, lr, wh, od, tg, tr, so, bd, wo, be)) := by
  obtain ⟨⟨h1, h2, h3, h4, h5, h6, h7, h8⟩, hF⟩ := h
  obtain ⟨d, c1, r1, t1, x1, y1⟩ := lk_giveAll (ob := ob) (gc := gc) (lc := lc) h1 h2 hB
  exact ⟨d, ⟨⟨c1, r1, h3, h4, h5, h6, by rw [t1]; exact h7, h8⟩, hF⟩, t1, x1, y1⟩
theorem bk_S_mono (h : bk_S B A g st ol th pl md cr lr gv ib il it qi qc ta wh od tg tr so bd fr en hc hg hi kc kb kl kw kh kf kz ky mk cb mb pb pn bg be ml xp fh fl fa mi yp ki le go la ps pd pt) {B' : Nat} (hb : B ≤ B') : bk_S B' A g st ol th pl md cr lr gv ib il it qi qc ta wh od tg tr so bd fr en hc hg hi kc kb kl kw kh kf kz ky mk cb mb pb pn bg be ml xp fh fl fa mi yp ki le go la ps pd pt := by
  obtain ⟨⟨h1, h2⟩, hF⟩ := h
  exact ⟨⟨dk_mono h1 hb, h2⟩, hF⟩
end STATE
