/-! commands, done on both sides -/
section CMD
variable {st pl md cr : Nat → Int32}
theorem lk_cmd1 {B : Nat} {A : Nat → List bk_E} {g : Nat → Nat} {ob : Nat → Int32} {ol : Nat → Int32} {gc : Nat → Int32} {lc : Nat → Int32} {lr : Nat → Int32} {gv : Nat → Int32} {th : Nat → Int32} {hc : Nat → Int32} {hg : Nat → Int32} {hi : Nat → Int32} {ib : Nat → Int32} {il : Nat → Int32} {it : Nat → Int32} {qi : Nat → Int32} {qc : Nat → Int32} {ta : Nat → Int32} {wh : Nat → Int32} {od : Nat → Int32} {tg : Nat → Int32} {tr : Nat → Int32} {so : Nat → Int32} {bd : Nat → Int32} {fr : Int32} {en : Int32} {bg kb kl kc kw kh kf kz ky : Nat → Int32} (h : bk_C B A g st ol th pl md cr lr gv ib il it qi qc ta wh od tg tr so bd fr en) (rh : bk_RH A hi hg hc) (K : ∀ z, z < 4 → bk_K kc kb kl kw kh kf kz ky z) (hbg : ∀ z, z < 4 → ∃ b, b < 4 ∧ bg z = nI b) (hB : B + 112 ≤ 100000000) {s m b c : Nat} {v : Nat → Nat} (hs : s < 4) (hm1 : 1 ≤ m) (hm : m ≤ 200) (hv : ∀ j, v j < 256) (hb : bg s = nI b) (hb4 : b < 4) (hc' : kc s = nI c) (hc6 : c ≤ 6) (valid : bk_Vd th s m b c v) (k : v 0 = 1) :
    ∃ (d : bk_DT) (pl' md' cr' bg' kb' kl' kc' kw' kh' kf' kz' ky' : Nat → Int32), bk_C (B + 112) (zz_A d) (zz_g d) st (zz_ol d) (zz_th d) pl' md' cr' (zz_lr d) (zz_gv d) (zz_ib d) (zz_il d) (zz_it d) (zz_qi d) (zz_qc d) (zz_ta d) (zz_wh d) (zz_od d) (zz_tg d) (zz_tr d) (zz_so d) (zz_bd d) (zz_fr d) (zz_en d) ∧ bk_RH (zz_A d) (zz_hi d) (zz_hg d) (zz_hc d) ∧ (∀ z, z < 4 → bk_K kc' kb' kl' kw' kh' kf' kz' ky' z) ∧ (∀ z, z < 4 → ∃ b, b < 4 ∧ bg' z = nI b) ∧ (∀ r, r / 4 ≠ s → zz_th d r = th r) ∧
      (∀ {lf cd pb pn xp fh fl fa mk cb mi mb ml co : Nat → Int32} (pa : Nat → Int32) (post : SX → Prop), (∀ j, j < m → pa j = nI (v j)) → post (nI m, st, lf, cd, bg', zz_gv d, zz_ob d, zz_ol d, pb, pn, xp, fh, fl, fa, mk, cb, mi, mb, ml, pa, kb', kl', kc', zz_th d, pl', md', cr', zz_hc d, zz_hg d, zz_hi d, zz_ib d, zz_il d, zz_it d, zz_qi d, zz_qc d, zz_gc d, zz_lc d, zz_lr d, co) → wpX_doCommand post (nI m, st, lf, cd, bg, gv, ob, ol, pb, pn, xp, fh, fl, fa, mk, cb, mi, mb, ml, pa, kb, kl, kc, th, pl, md, cr, hc, hg, hi, ib, il, it, qi, qc, gc, lc, lr, co) (nI s)) ∧
      (∀ {lf cd pb pn yp ki le go mk cb mb ml la ps pd pt wo be : Nat → Int32} {wr : Int32}, (∀ j, j < m → wo j = nI (v j)) → ∃ wo' : Nat → Int32, ∀ (post : Int32 → SY → Prop), post 1 (zz_fr d, zz_en d, nI m, wr, st, lf, cd, zz_ta d, bg', kc', zz_ob d, zz_ol d, pb, pn, yp, ki, le, go, mk, cb, mb, ml, la, ps, pd, pt, kw', kh', kf', kz', ky', zz_th d, pl', md', cr', zz_gc d, zz_lc d, zz_lr d, zz_wh d, zz_od d, zz_tg d, zz_tr d, zz_so d, zz_bd d, wo', be) → wpY_command post (fr, en, nI m, wr, st, lf, cd, ta, bg, kc, ob, ol, pb, pn, yp, ki, le, go, mk, cb, mb, ml, la, ps, pd, pt, kw, kh, kf, kz, ky, th, pl, md, cr, gc, lc, lr, wh, od, tg, tr, so, bd, wo, be) (nI s)) := by
  have cs : (nI s).toNatClampNeg = s := nI_clamp (by omega)
  have hv0 := hv 0
  have hv1 := hv 1
  have hv2 := hv 2
  have hv3 := hv 3
  have hv4 := hv 4
  obtain ⟨e5, q1, q2, q3, q4, q5, q6⟩ := (vd_1 k).mp valid
  have hr : 4 * s + v 1 < 16 := by omega
  have hA : A (3 + (4 * s + v 1)) = [] := by
    rcases h.2.2.1 _ hr with ⟨_, z⟩ | ⟨z, _⟩
    · exact z
    · rw [q2] at z; exact absurd z (by decide)
  have hh := (rh _ hr).1
  rw [hA] at hh
  have he : upd hc (4 * s + v 1) 0 = hc := bk_uid hc _ 0 hh
  have cr' : (nI (4 * s + v 1)).toNatClampNeg = 4 * s + v 1 := nI_clamp (by omega)
  have e1 : nI s * 4 + nI (v 1) = nI (4 * s + v 1) := by rw [bn_mul, nI_add, Nat.mul_comm]
  have i16 : vp_in (nI (4 * s + v 1)) 16 := vp_in_nI (by omega) (by omega)
  refine ⟨(A, g, ob, ol, gc, lc, lr, gv, upd th (4 * s + v 1) 1, hc, hg, hi, ib, il, it, qi, qc, ta, wh, od, tg, tr, so, bd, fr, en), upd pl (4 * s + v 1) (nI (v 2)), upd md (4 * s + v 1) (nI (v 3)), upd cr (4 * s + v 1) (nI (v 4)), bg, kb, kl, kc, kw, kh, kf, kz, ky, dk_mono (dk_sub h hA q3 q4 q5 q6) (by omega), rh, K, hbg, fun r hr' => pk_un (by omega), ?_, ?_⟩
  · intro lf cd pb pn xp fh fl fa mk cb mi mb ml co pa post hpa hp
    refine nm_r (hpa 1 (by omega)) (nm_r (by rw [hpa 0 (by omega), k]) ?_)
    refine br_f (by decide) (br_f (by decide) (br_t rfl (?_)))
    rw [hpa 1 (by omega), e1]
    unfold wpX_subscribe
    dsimp only
    rw [cr', hpa 2 (by omega), hpa 3 (by omega), hpa 4 (by omega), bn_b1, he]
    exact ⟨i16, nm_e ⟨i16, nm_e ⟨i16, nm_e ⟨i16, nm_e ⟨i16, nm_e hp⟩⟩⟩⟩⟩
  · intro lf cd pb pn yp ki le go mk cb mb ml la ps pd pt wo be wr hwo
    exact ⟨wo, fun post hp => yk_command hs hm1 hm hv hwo hb hb4 hc' hc6 (fun z => absurd valid z) (fun _ _ => hp) (fun _ z => by omega) (fun _ z => by omega) (fun _ z => by omega) (fun _ z => by omega) (fun _ z => by omega) (fun _ z => by omega) (fun _ z => by omega)⟩
theorem lk_cmd2 {B : Nat} {A : Nat → List bk_E} {g : Nat → Nat} {ob : Nat → Int32} {ol : Nat → Int32} {gc : Nat → Int32} {lc : Nat → Int32} {lr : Nat → Int32} {gv : Nat → Int32} {th : Nat → Int32} {hc : Nat → Int32} {hg : Nat → Int32} {hi : Nat → Int32} {ib : Nat → Int32} {il : Nat → Int32} {it : Nat → Int32} {qi : Nat → Int32} {qc : Nat → Int32} {ta : Nat → Int32} {wh : Nat → Int32} {od : Nat → Int32} {tg : Nat → Int32} {tr : Nat → Int32} {so : Nat → Int32} {bd : Nat → Int32} {fr : Int32} {en : Int32} {bg kb kl kc kw kh kf kz ky : Nat → Int32} (h : bk_C B A g st ol th pl md cr lr gv ib il it qi qc ta wh od tg tr so bd fr en) (rh : bk_RH A hi hg hc) (K : ∀ z, z < 4 → bk_K kc kb kl kw kh kf kz ky z) (hbg : ∀ z, z < 4 → ∃ b, b < 4 ∧ bg z = nI b) (hB : B + 112 ≤ 100000000) {s m b c : Nat} {v : Nat → Nat} (hs : s < 4) (hm1 : 1 ≤ m) (hm : m ≤ 200) (hv : ∀ j, v j < 256) (hb : bg s = nI b) (hb4 : b < 4) (hc' : kc s = nI c) (hc6 : c ≤ 6) (valid : bk_Vd th s m b c v) (k : v 0 = 2) :
    ∃ (d : bk_DT) (pl' md' cr' bg' kb' kl' kc' kw' kh' kf' kz' ky' : Nat → Int32), bk_C (B + 112) (zz_A d) (zz_g d) st (zz_ol d) (zz_th d) pl' md' cr' (zz_lr d) (zz_gv d) (zz_ib d) (zz_il d) (zz_it d) (zz_qi d) (zz_qc d) (zz_ta d) (zz_wh d) (zz_od d) (zz_tg d) (zz_tr d) (zz_so d) (zz_bd d) (zz_fr d) (zz_en d) ∧ bk_RH (zz_A d) (zz_hi d) (zz_hg d) (zz_hc d) ∧ (∀ z, z < 4 → bk_K kc' kb' kl' kw' kh' kf' kz' ky' z) ∧ (∀ z, z < 4 → ∃ b, b < 4 ∧ bg' z = nI b) ∧ (∀ r, r / 4 ≠ s → zz_th d r = th r) ∧
      (∀ {lf cd pb pn xp fh fl fa mk cb mi mb ml co : Nat → Int32} (pa : Nat → Int32) (post : SX → Prop), (∀ j, j < m → pa j = nI (v j)) → post (nI m, st, lf, cd, bg', zz_gv d, zz_ob d, zz_ol d, pb, pn, xp, fh, fl, fa, mk, cb, mi, mb, ml, pa, kb', kl', kc', zz_th d, pl', md', cr', zz_hc d, zz_hg d, zz_hi d, zz_ib d, zz_il d, zz_it d, zz_qi d, zz_qc d, zz_gc d, zz_lc d, zz_lr d, co) → wpX_doCommand post (nI m, st, lf, cd, bg, gv, ob, ol, pb, pn, xp, fh, fl, fa, mk, cb, mi, mb, ml, pa, kb, kl, kc, th, pl, md, cr, hc, hg, hi, ib, il, it, qi, qc, gc, lc, lr, co) (nI s)) ∧
      (∀ {lf cd pb pn yp ki le go mk cb mb ml la ps pd pt wo be : Nat → Int32} {wr : Int32}, (∀ j, j < m → wo j = nI (v j)) → ∃ wo' : Nat → Int32, ∀ (post : Int32 → SY → Prop), post 1 (zz_fr d, zz_en d, nI m, wr, st, lf, cd, zz_ta d, bg', kc', zz_ob d, zz_ol d, pb, pn, yp, ki, le, go, mk, cb, mb, ml, la, ps, pd, pt, kw', kh', kf', kz', ky', zz_th d, pl', md', cr', zz_gc d, zz_lc d, zz_lr d, zz_wh d, zz_od d, zz_tg d, zz_tr d, zz_so d, zz_bd d, wo', be) → wpY_command post (fr, en, nI m, wr, st, lf, cd, ta, bg, kc, ob, ol, pb, pn, yp, ki, le, go, mk, cb, mb, ml, la, ps, pd, pt, kw, kh, kf, kz, ky, th, pl, md, cr, gc, lc, lr, wh, od, tg, tr, so, bd, wo, be) (nI s)) := by
  have cs : (nI s).toNatClampNeg = s := nI_clamp (by omega)
  have hv0 := hv 0
  have hv1 := hv 1
  have hv2 := hv 2
  have hv3 := hv 3
  have hv4 := hv 4
  obtain ⟨e5, q1, q2⟩ := (vd_2 k).mp valid
  have hr : 4 * s + v 1 < 16 := by omega
  have e1 : nI s * 4 + nI (v 1) = nI (4 * s + v 1) := by rw [bn_mul, nI_add, Nat.mul_comm]
  obtain ⟨d, h1, r1, t1, _, x1, y1⟩ := lk_end1 (ob := ob) (gc := gc) (lc := lc) h rh (by omega) hr
  refine ⟨d, pl, md, cr, bg, kb, kl, kc, kw, kh, kf, kz, ky, dk_mono h1 (by omega), r1, K, hbg, fun r hr' => by rw [t1]; exact pk_un (by omega), ?_, ?_⟩
  · intro lf cd pb pn xp fh fl fa mk cb mi mb ml co pa post hpa hp
    refine nm_r (hpa 1 (by omega)) (nm_r (by rw [hpa 0 (by omega), k]) ?_)
    refine br_f (by decide) (br_f (by decide) (br_f (by decide) (br_t rfl (?_))))
    rw [hpa 1 (by omega), e1]
    exact x1 _ hp
  · intro lf cd pb pn yp ki le go mk cb mb ml la ps pd pt wo be wr hwo
    exact ⟨wo, fun post hp => yk_command hs hm1 hm hv hwo hb hb4 hc' hc6 (fun z => absurd valid z) (fun _ z => by omega) (fun _ _ => y1 q2 _ hp) (fun _ z => by omega) (fun _ z => by omega) (fun _ z => by omega) (fun _ z => by omega) (fun _ z => by omega) (fun _ z => by omega)⟩
theorem lk_cmd6 {B : Nat} {A : Nat → List bk_E} {g : Nat → Nat} {ob : Nat → Int32} {ol : Nat → Int32} {gc : Nat → Int32} {lc : Nat → Int32} {lr : Nat → Int32} {gv : Nat → Int32} {th : Nat → Int32} {hc : Nat → Int32} {hg : Nat → Int32} {hi : Nat → Int32} {ib : Nat → Int32} {il : Nat → Int32} {it : Nat → Int32} {qi : Nat → Int32} {qc : Nat → Int32} {ta : Nat → Int32} {wh : Nat → Int32} {od : Nat → Int32} {tg : Nat → Int32} {tr : Nat → Int32} {so : Nat → Int32} {bd : Nat → Int32} {fr : Int32} {en : Int32} {bg kb kl kc kw kh kf kz ky : Nat → Int32} (h : bk_C B A g st ol th pl md cr lr gv ib il it qi qc ta wh od tg tr so bd fr en) (rh : bk_RH A hi hg hc) (K : ∀ z, z < 4 → bk_K kc kb kl kw kh kf kz ky z) (hbg : ∀ z, z < 4 → ∃ b, b < 4 ∧ bg z = nI b) (hB : B + 112 ≤ 100000000) {s m b c : Nat} {v : Nat → Nat} (hs : s < 4) (hm1 : 1 ≤ m) (hm : m ≤ 200) (hv : ∀ j, v j < 256) (hb : bg s = nI b) (hb4 : b < 4) (hc' : kc s = nI c) (hc6 : c ≤ 6) (valid : bk_Vd th s m b c v) (k : v 0 = 6) :
    ∃ (d : bk_DT) (pl' md' cr' bg' kb' kl' kc' kw' kh' kf' kz' ky' : Nat → Int32), bk_C (B + 112) (zz_A d) (zz_g d) st (zz_ol d) (zz_th d) pl' md' cr' (zz_lr d) (zz_gv d) (zz_ib d) (zz_il d) (zz_it d) (zz_qi d) (zz_qc d) (zz_ta d) (zz_wh d) (zz_od d) (zz_tg d) (zz_tr d) (zz_so d) (zz_bd d) (zz_fr d) (zz_en d) ∧ bk_RH (zz_A d) (zz_hi d) (zz_hg d) (zz_hc d) ∧ (∀ z, z < 4 → bk_K kc' kb' kl' kw' kh' kf' kz' ky' z) ∧ (∀ z, z < 4 → ∃ b, b < 4 ∧ bg' z = nI b) ∧ (∀ r, r / 4 ≠ s → zz_th d r = th r) ∧
      (∀ {lf cd pb pn xp fh fl fa mk cb mi mb ml co : Nat → Int32} (pa : Nat → Int32) (post : SX → Prop), (∀ j, j < m → pa j = nI (v j)) → post (nI m, st, lf, cd, bg', zz_gv d, zz_ob d, zz_ol d, pb, pn, xp, fh, fl, fa, mk, cb, mi, mb, ml, pa, kb', kl', kc', zz_th d, pl', md', cr', zz_hc d, zz_hg d, zz_hi d, zz_ib d, zz_il d, zz_it d, zz_qi d, zz_qc d, zz_gc d, zz_lc d, zz_lr d, co) → wpX_doCommand post (nI m, st, lf, cd, bg, gv, ob, ol, pb, pn, xp, fh, fl, fa, mk, cb, mi, mb, ml, pa, kb, kl, kc, th, pl, md, cr, hc, hg, hi, ib, il, it, qi, qc, gc, lc, lr, co) (nI s)) ∧
      (∀ {lf cd pb pn yp ki le go mk cb mb ml la ps pd pt wo be : Nat → Int32} {wr : Int32}, (∀ j, j < m → wo j = nI (v j)) → ∃ wo' : Nat → Int32, ∀ (post : Int32 → SY → Prop), post 1 (zz_fr d, zz_en d, nI m, wr, st, lf, cd, zz_ta d, bg', kc', zz_ob d, zz_ol d, pb, pn, yp, ki, le, go, mk, cb, mb, ml, la, ps, pd, pt, kw', kh', kf', kz', ky', zz_th d, pl', md', cr', zz_gc d, zz_lc d, zz_lr d, zz_wh d, zz_od d, zz_tg d, zz_tr d, zz_so d, zz_bd d, wo', be) → wpY_command post (fr, en, nI m, wr, st, lf, cd, ta, bg, kc, ob, ol, pb, pn, yp, ki, le, go, mk, cb, mb, ml, la, ps, pd, pt, kw, kh, kf, kz, ky, th, pl, md, cr, gc, lc, lr, wh, od, tg, tr, so, bd, wo, be) (nI s)) := by
  have cs : (nI s).toNatClampNeg = s := nI_clamp (by omega)
  have hv0 := hv 0
  have hv1 := hv 1
  have hv2 := hv 2
  have hv3 := hv 3
  have hv4 := hv 4
  obtain ⟨e5, q1, q2⟩ := (vd_6 k).mp valid
  obtain ⟨b', hb', eb⟩ := bk_bor b hb4 (v 1) (by omega)
  refine ⟨(A, g, ob, ol, gc, lc, lr, gv, th, hc, hg, hi, ib, il, it, qi, qc, ta, wh, od, tg, tr, so, bd, fr, en), pl, md, cr, upd bg s (bg s ||| nI (v 1)), kb, kl, kc, kw, kh, kf, kz, ky, dk_mono h (by omega), rh, K, ?_, fun _ _ => rfl, ?_, ?_⟩
  · intro z hz
    by_cases e : z = s
    · subst e
      exact ⟨b', hb', by rw [pk_us, hb]; exact eb⟩
    · rw [pk_un e]; exact hbg z hz
  · intro lf cd pb pn xp fh fl fa mk cb mi mb ml co pa post hpa hp
    refine nm_r (hpa 1 (by omega)) (nm_r (by rw [hpa 0 (by omega), k]) ?_)
    refine br_f (by decide) (br_f (by decide) (br_f (by decide) (br_f (by decide) (br_f (by decide) (br_f (by decide) (br_f (by decide) (br_t rfl (⟨pk_in s 4 hs, pk_in s 4 hs, ?_⟩))))))))
    rw [cs]
    exact nm_e hp
  · intro lf cd pb pn yp ki le go mk cb mb ml la ps pd pt wo be wr hwo
    exact ⟨wo, fun post hp => yk_command hs hm1 hm hv hwo hb hb4 hc' hc6 (fun z => absurd valid z) (fun _ z => by omega) (fun _ z => by omega) (fun _ z => by omega) (fun _ z => by omega) (fun _ _ => hp) (fun _ z => by omega) (fun _ z => by omega) (fun _ z => by omega)⟩
theorem lk_cmd9 {B : Nat} {A : Nat → List bk_E} {g : Nat → Nat} {ob : Nat → Int32} {ol : Nat → Int32} {gc : Nat → Int32} {lc : Nat → Int32} {lr : Nat → Int32} {gv : Nat → Int32} {th : Nat → Int32} {hc : Nat → Int32} {hg : Nat → Int32} {hi : Nat → Int32} {ib : Nat → Int32} {il : Nat → Int32} {it : Nat → Int32} {qi : Nat → Int32} {qc : Nat → Int32} {ta : Nat → Int32} {wh : Nat → Int32} {od : Nat → Int32} {tg : Nat → Int32} {tr : Nat → Int32} {so : Nat → Int32} {bd : Nat → Int32} {fr : Int32} {en : Int32} {bg kb kl kc kw kh kf kz ky : Nat → Int32} (h : bk_C B A g st ol th pl md cr lr gv ib il it qi qc ta wh od tg tr so bd fr en) (rh : bk_RH A hi hg hc) (K : ∀ z, z < 4 → bk_K kc kb kl kw kh kf kz ky z) (hbg : ∀ z, z < 4 → ∃ b, b < 4 ∧ bg z = nI b) (hB : B + 112 ≤ 100000000) {s m b c : Nat} {v : Nat → Nat} (hs : s < 4) (hm1 : 1 ≤ m) (hm : m ≤ 200) (hv : ∀ j, v j < 256) (hb : bg s = nI b) (hb4 : b < 4) (hc' : kc s = nI c) (hc6 : c ≤ 6) (valid : bk_Vd th s m b c v) (k : v 0 = 9) :
    ∃ (d : bk_DT) (pl' md' cr' bg' kb' kl' kc' kw' kh' kf' kz' ky' : Nat → Int32), bk_C (B + 112) (zz_A d) (zz_g d) st (zz_ol d) (zz_th d) pl' md' cr' (zz_lr d) (zz_gv d) (zz_ib d) (zz_il d) (zz_it d) (zz_qi d) (zz_qc d) (zz_ta d) (zz_wh d) (zz_od d) (zz_tg d) (zz_tr d) (zz_so d) (zz_bd d) (zz_fr d) (zz_en d) ∧ bk_RH (zz_A d) (zz_hi d) (zz_hg d) (zz_hc d) ∧ (∀ z, z < 4 → bk_K kc' kb' kl' kw' kh' kf' kz' ky' z) ∧ (∀ z, z < 4 → ∃ b, b < 4 ∧ bg' z = nI b) ∧ (∀ r, r / 4 ≠ s → zz_th d r = th r) ∧
      (∀ {lf cd pb pn xp fh fl fa mk cb mi mb ml co : Nat → Int32} (pa : Nat → Int32) (post : SX → Prop), (∀ j, j < m → pa j = nI (v j)) → post (nI m, st, lf, cd, bg', zz_gv d, zz_ob d, zz_ol d, pb, pn, xp, fh, fl, fa, mk, cb, mi, mb, ml, pa, kb', kl', kc', zz_th d, pl', md', cr', zz_hc d, zz_hg d, zz_hi d, zz_ib d, zz_il d, zz_it d, zz_qi d, zz_qc d, zz_gc d, zz_lc d, zz_lr d, co) → wpX_doCommand post (nI m, st, lf, cd, bg, gv, ob, ol, pb, pn, xp, fh, fl, fa, mk, cb, mi, mb, ml, pa, kb, kl, kc, th, pl, md, cr, hc, hg, hi, ib, il, it, qi, qc, gc, lc, lr, co) (nI s)) ∧
      (∀ {lf cd pb pn yp ki le go mk cb mb ml la ps pd pt wo be : Nat → Int32} {wr : Int32}, (∀ j, j < m → wo j = nI (v j)) → ∃ wo' : Nat → Int32, ∀ (post : Int32 → SY → Prop), post 1 (zz_fr d, zz_en d, nI m, wr, st, lf, cd, zz_ta d, bg', kc', zz_ob d, zz_ol d, pb, pn, yp, ki, le, go, mk, cb, mb, ml, la, ps, pd, pt, kw', kh', kf', kz', ky', zz_th d, pl', md', cr', zz_gc d, zz_lc d, zz_lr d, zz_wh d, zz_od d, zz_tg d, zz_tr d, zz_so d, zz_bd d, wo', be) → wpY_command post (fr, en, nI m, wr, st, lf, cd, ta, bg, kc, ob, ol, pb, pn, yp, ki, le, go, mk, cb, mb, ml, la, ps, pd, pt, kw, kh, kf, kz, ky, th, pl, md, cr, gc, lc, lr, wh, od, tg, tr, so, bd, wo, be) (nI s)) := by
  have cs : (nI s).toNatClampNeg = s := nI_clamp (by omega)
  have hv0 := hv 0
  have hv1 := hv 1
  have hv2 := hv 2
  have hv3 := hv 3
  have hv4 := hv 4
  have e5 := (vd_9 k).mp valid
  subst e5
  obtain ⟨_, _, _, ⟨a, ha, ea⟩, _⟩ := h.2.2.2.1 s hs
  by_cases room : a + 2 + 2 ≤ 240
  · have w := dk_mono (dk_ol h (s := s) (a := a + 4) (by omega)) (B' := B + 112) (by omega)
    refine ⟨(A, g, upd (upd (upd (upd ob (240 * s + a) (128 + 1)) (240 * s + (a + 1)) 2) (240 * s + (a + 2)) 9) (240 * s + (a + 3)) (nI (v 1)), upd ol s (nI (a + 4)), gc, lc, lr, gv, th, hc, hg, hi, ib, il, it, qi, qc, ta, wh, od, tg, tr, so, bd, fr, en), pl, md, cr, bg, kb, kl, kc, kw, kh, kf, kz, ky, w, rh, K, hbg, fun _ _ => rfl, ?_, ?_⟩
    · intro lf cd pb pn xp fh fl fa mk cb mi mb ml co pa post hpa hp
      refine nm_r (hpa 1 (by omega)) (nm_r (by rw [hpa 0 (by omega), k]) ?_)
      refine br_f (by decide) (br_f (by decide) (br_f (by decide) (br_f (by decide) (br_f (by decide) (br_f (by decide) (br_f (by decide) (br_f (by decide) (br_f (by decide) (br_f (by decide) (br_t rfl (xk_echo hs ea ha (fun _ => ?_) (fun z => by omega))))))))))))
      rw [hpa 1 (by omega)]
      exact hp
    · intro lf cd pb pn yp ki le go mk cb mb ml la ps pd pt wo be wr hwo
      refine ⟨wo, fun post hp => yk_command hs hm1 hm hv hwo hb hb4 hc' hc6 (fun z => absurd valid z) (fun _ z => by omega) (fun _ z => by omega) (fun _ z => by omega) (fun _ z => by omega) (fun _ z => by omega) (fun _ z => by omega) (fun _ z => by omega) (fun _ _ => yk_write (n := 2) hs ea ha (by omega) (fun _ => ?_) (fun z => by omega))⟩
      unfold bk_wf bk_wf bk_wf
      rw [hwo 0 (by omega), hwo 1 (by omega), k]
      exact br_t rfl hp
  · refine ⟨(A, g, ob, ol, gc, lc, lr, gv, th, hc, hg, hi, ib, il, it, qi, qc, ta, wh, od, tg, tr, so, bd, fr, en), pl, md, cr, bg, kb, kl, kc, kw, kh, kf, kz, ky, dk_mono h (by omega), rh, K, hbg, fun _ _ => rfl, ?_, ?_⟩
    · intro lf cd pb pn xp fh fl fa mk cb mi mb ml co pa post hpa hp
      refine nm_r (hpa 1 (by omega)) (nm_r (by rw [hpa 0 (by omega), k]) ?_)
      exact br_f (by decide) (br_f (by decide) (br_f (by decide) (br_f (by decide) (br_f (by decide) (br_f (by decide) (br_f (by decide) (br_f (by decide) (br_f (by decide) (br_f (by decide) (br_t rfl (xk_echo hs ea ha (fun z => by omega) (fun _ => hp))))))))))))
    · intro lf cd pb pn yp ki le go mk cb mb ml la ps pd pt wo be wr hwo
      exact ⟨wo, fun post hp => yk_command hs hm1 hm hv hwo hb hb4 hc' hc6 (fun z => absurd valid z) (fun _ z => by omega) (fun _ z => by omega) (fun _ z => by omega) (fun _ z => by omega) (fun _ z => by omega) (fun _ z => by omega) (fun _ z => by omega) (fun _ _ => yk_write (n := 2) hs ea ha (by omega) (fun z => by omega) (fun _ => br_t rfl hp))⟩
end CMD
