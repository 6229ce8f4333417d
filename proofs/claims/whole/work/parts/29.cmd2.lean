/-! commands 3, 4, 5, 7, 8 -/
section CMD2
variable {st pl md cr : Nat → Int32}
theorem lk_cmd3 {B : Nat} {A : Nat → List bk_E} {g : Nat → Nat} {ob : Nat → Int32} {ol : Nat → Int32} {gc : Nat → Int32} {lc : Nat → Int32} {lr : Nat → Int32} {gv : Nat → Int32} {th : Nat → Int32} {hc : Nat → Int32} {hg : Nat → Int32} {hi : Nat → Int32} {ib : Nat → Int32} {il : Nat → Int32} {it : Nat → Int32} {qi : Nat → Int32} {qc : Nat → Int32} {ta : Nat → Int32} {wh : Nat → Int32} {od : Nat → Int32} {tg : Nat → Int32} {tr : Nat → Int32} {so : Nat → Int32} {bd : Nat → Int32} {fr : Int32} {en : Int32} {bg kb kl kc kw kh kf kz ky : Nat → Int32} (h : bk_C B A g st ol th pl md cr lr gv ib il it qi qc ta wh od tg tr so bd fr en) (rh : bk_RH A hi hg hc) (K : ∀ z, z < 4 → bk_K kc kb kl kw kh kf kz ky z) (hbg : ∀ z, z < 4 → ∃ b, b < 4 ∧ bg z = nI b) (hB : B + 112 ≤ 100000000) {s m b c : Nat} {v : Nat → Nat} (hs : s < 4) (hm1 : 1 ≤ m) (hm : m ≤ 200) (hv : ∀ j, v j < 256) (hb : bg s = nI b) (hb4 : b < 4) (hc' : kc s = nI c) (hc6 : c ≤ 6) (valid : bk_Vd th s m b c v)
    (k3 : 3 ≤ m ∧ m ≤ 19 ∧ (v 2 = 0 ∨ (bk_Beg b (v 2) ∧ c < 6))) (kd : (v 0 = 3 ∧ v 1 < 6 ∧ 1 ≤ m - 3 ∧ m - 3 ≤ 16) ∨ ((v 0 = 4 ∨ v 0 = 5) ∧ v 1 < 256 ∧ m - 3 = 0)) :
    ∃ (d : bk_DT) (pl' md' cr' bg' kb' kl' kc' kw' kh' kf' kz' ky' : Nat → Int32), bk_C (B + 112) (zz_A d) (zz_g d) st (zz_ol d) (zz_th d) pl' md' cr' (zz_lr d) (zz_gv d) (zz_ib d) (zz_il d) (zz_it d) (zz_qi d) (zz_qc d) (zz_ta d) (zz_wh d) (zz_od d) (zz_tg d) (zz_tr d) (zz_so d) (zz_bd d) (zz_fr d) (zz_en d) ∧ bk_RH (zz_A d) (zz_hi d) (zz_hg d) (zz_hc d) ∧ (∀ z, z < 4 → bk_K kc' kb' kl' kw' kh' kf' kz' ky' z) ∧ (∀ z, z < 4 → ∃ b, b < 4 ∧ bg' z = nI b) ∧ (∀ r, r / 4 ≠ s → zz_th d r = th r) ∧
      (∀ {lf cd pb pn xp fh fl fa mk cb mi mb ml co : Nat → Int32} (pa : Nat → Int32) (post : SX → Prop), (∀ j, j < m → pa j = nI (v j)) → post (nI m, st, lf, cd, bg', zz_gv d, zz_ob d, zz_ol d, pb, pn, xp, fh, fl, fa, mk, cb, mi, mb, ml, pa, kb', kl', kc', zz_th d, pl', md', cr', zz_hc d, zz_hg d, zz_hi d, zz_ib d, zz_il d, zz_it d, zz_qi d, zz_qc d, zz_gc d, zz_lc d, zz_lr d, co) → wpX_doCommand post (nI m, st, lf, cd, bg, gv, ob, ol, pb, pn, xp, fh, fl, fa, mk, cb, mi, mb, ml, pa, kb, kl, kc, th, pl, md, cr, hc, hg, hi, ib, il, it, qi, qc, gc, lc, lr, co) (nI s)) ∧
      (∀ {lf cd pb pn yp ki le go mk cb mb ml la ps pd pt wo be : Nat → Int32} {wr : Int32}, (∀ j, j < m → wo j = nI (v j)) → ∃ wo' : Nat → Int32, ∀ (post : Int32 → SY → Prop), post 1 (zz_fr d, zz_en d, nI m, wr, st, lf, cd, zz_ta d, bg', kc', zz_ob d, zz_ol d, pb, pn, yp, ki, le, go, mk, cb, mb, ml, la, ps, pd, pt, kw', kh', kf', kz', ky', zz_th d, pl', md', cr', zz_gc d, zz_lc d, zz_lr d, zz_wh d, zz_od d, zz_tg d, zz_tr d, zz_so d, zz_bd d, wo', be) → wpY_command post (fr, en, nI m, wr, st, lf, cd, ta, bg, kc, ob, ol, pb, pn, yp, ki, le, go, mk, cb, mb, ml, la, ps, pd, pt, kw, kh, kf, kz, ky, th, pl, md, cr, gc, lc, lr, wh, od, tg, tr, so, bd, wo, be) (nI s)) := by
  have cs : (nI s).toNatClampNeg = s := nI_clamp (by omega)
  have hv0 := hv 0
  have hv1 := hv 1
  have hv2 := hv 2
  obtain ⟨c', _, ec, Ks⟩ := K s hs
  rw [hc'] at ec
  have ec : c = c' := (nI_eq (by omega) (by omega)).mp ec
  subst ec
  have kn : v 0 = 3 ∨ v 0 = 4 ∨ v 0 = 5 := by omega
  have em : m - 3 + 3 = m := by omega
  -- X's way to keep
  have road : ∀ {lf cd bg pb pn xp fh fl fa mk cb mi mb ml pa kb kl kc co : Nat → Int32} (post : SX → Prop), (∀ j, j < m → pa j = nI (v j)) → wX_doCommand_167 post (nI s) (nI m) st lf cd bg gv ob ol pb pn xp fh fl fa mk cb mi mb ml pa kb kl kc th pl md cr hc hg hi ib il it qi qc gc lc lr co → wpX_doCommand post (nI m, st, lf, cd, bg, gv, ob, ol, pb, pn, xp, fh, fl, fa, mk, cb, mi, mb, ml, pa, kb, kl, kc, th, pl, md, cr, hc, hg, hi, ib, il, it, qi, qc, gc, lc, lr, co) (nI s) := by
    intro lf cd bg pb pn xp fh fl fa mk cb mi mb ml pa kb kl kc co post hpa hp
    refine nm_r (hpa 1 (by omega)) ?_
    rw [hpa 0 (by omega)]
    rcases kn with k | k | k
    · rw [k]; exact nm_e (br_f (by decide) (br_f (by decide) (br_f (by decide) (br_f (by decide) (br_t rfl (hp))))))
    · rw [k]; exact nm_e (br_f (by decide) (br_f (by decide) (br_f (by decide) (br_f (by decide) (br_f (by decide) (br_t rfl (hp)))))))
    · rw [k]; exact nm_e (br_f (by decide) (br_f (by decide) (br_f (by decide) (br_f (by decide) (br_f (by decide) (br_f (by decide) (br_t rfl (hp))))))))
  -- Y's way to does
  have roadY : ∀ {lf cd pb pn yp ki le go mk cb mb ml la ps pd pt kw kh kf kz ky wo be : Nat → Int32} {wr : Int32} (post : Int32 → SY → Prop), (∀ j, j < m → wo j = nI (v j)) → wpY_does (fun r u => match u with | (fr, en, ma, wr, st, lf, cd, ta, bg, kc, ob, ol, pb, pn, yp, ki, le, go, mk, cb, mb, ml, la, ps, pd, pt, kw, kh, kf, kz, ky, th, pl, md, cr, gc, lc, lr, wh, od, tg, tr, so, bd, wo, be) => ((r = 0 → post 0 (fr, en, ma, wr, st, lf, cd, ta, bg, kc, ob, ol, pb, pn, yp, ki, le, go, mk, cb, mb, ml, la, ps, pd, pt, kw, kh, kf, kz, ky, th, pl, md, cr, gc, lc, lr, wh, od, tg, tr, so, bd, wo, be)) ∧ (¬ r = 0 → post 1 (fr, en, ma, wr, st, lf, cd, ta, bg, kc, ob, ol, pb, pn, yp, ki, le, go, mk, cb, mb, ml, la, ps, pd, pt, kw, kh, kf, kz, ky, th, pl, md, cr, gc, lc, lr, wh, od, tg, tr, so, bd, wo, be)))) (fr, en, nI m, wr, st, lf, cd, ta, bg, kc, ob, ol, pb, pn, yp, ki, le, go, mk, cb, mb, ml, la, ps, pd, pt, kw, kh, kf, kz, ky, th, pl, md, cr, gc, lc, lr, wh, od, tg, tr, so, bd, wo, be) (nI s) (nI (v 0)) (nI (v 1)) (nI (v 2)) (nI (m - 3)) → wpY_command post (fr, en, nI m, wr, st, lf, cd, ta, bg, kc, ob, ol, pb, pn, yp, ki, le, go, mk, cb, mb, ml, la, ps, pd, pt, kw, kh, kf, kz, ky, th, pl, md, cr, gc, lc, lr, wh, od, tg, tr, so, bd, wo, be) (nI s) := by
    intro lf cd pb pn yp ki le go mk cb mb ml la ps pd pt kw kh kf kz ky wo be wr post hwo hp
    refine yk_command hs hm1 hm hv hwo hb hb4 hc' hc6 (fun z => absurd valid z) (fun _ z => by omega) (fun _ z => by omega) (fun _ z => ?_) (fun _ z => ?_) (fun _ z => by omega) (fun _ z => by omega) (fun _ z => by omega) (fun _ z => by omega)
    · rw [z] at hp; exact hp
    · have e0 : m - 3 = 0 := by omega
      rw [e0] at hp; exact hp
  -- the rows of X where the command is put
  have bi : ∀ (pa : Nat → Int32), (∀ j, j < m → pa j = nI (v j)) → bk_mv kb ((s * 7 + c) * 19) pa m ((s * 7 + c) * 19) = nI (v 0) ∧ bk_mv kb ((s * 7 + c) * 19) pa m ((s * 7 + c) * 19 + 1) = nI (v 1) ∧ bk_mv kb ((s * 7 + c) * 19) pa m ((s * 7 + c) * 19 + 2) = nI (v 2) ∧ ∀ j, j < m - 3 → bk_mv kb ((s * 7 + c) * 19) pa m ((s * 7 + c) * 19 + 3 + j) = nI (v (3 + j)) := by
    intro pa hpa
    have z := bk_mv_i kb ((s * 7 + c) * 19) pa m
    refine ⟨?_, ?_, ?_, fun j hj => ?_⟩
    · have := z 0 (by omega)
      rw [Nat.add_zero] at this
      rw [this]; exact hpa 0 (by omega)
    · rw [z 1 (by omega)]; exact hpa 1 (by omega)
    · rw [z 2 (by omega)]; exact hpa 2 (by omega)
    · rw [Nat.add_assoc, z (3 + j) (by omega)]; exact hpa _ (by omega)
  have bo : ∀ (pa : Nat → Int32) (p k : Nat), p ≠ s * 7 + c → k < 19 → bk_mv kb ((s * 7 + c) * 19) pa m (p * 19 + k) = kb (p * 19 + k) := fun pa p k hp hk => bk_mv_o kb _ pa m _ (by omega)
  have mvc : ∀ (pa : Nat → Int32), (∀ j, j < m → pa j = nI (v j)) → bk_mv kb ((s * 7 + c) * 19) pa m = bk_mv kb ((s * 7 + c) * 19) (fun j => nI (v j)) m := fun pa hpa => bk_mv_congr kb _ pa _ m hpa
  by_cases x0 : v 2 = 0
  · -- at once
    obtain ⟨d, h1, r1, t1, x1, y1⟩ := lk_do (ob := ob) (gc := gc) (lc := lc) (s := s) (w := v 0) (a := v 1) (n := m - 3) h rh (by omega) hs kd (fun j => nI (v (3 + j)))
    generalize hkb1 : bk_mv kb ((s * 7 + c) * 19) (fun j => nI (v j)) m = kb1 at *
    generalize hkl1 : upd kl (s * 7 + c) (nI m) = kl1 at *
    have b1 := bi (fun j => nI (v j)) (fun _ _ => rfl)
    have o1 := bo (fun j => nI (v j))
    rw [hkb1] at b1 o1
    have f1 : ∀ j, j < c → kb1 ((s * 7 + j) * 19 + 2) ≠ 0 := by
      intro j hj
      rw [o1 (s * 7 + j) 2 (by omega) (by omega)]
      obtain ⟨w, a, y, n, kk, hy, k0, k1, k2, _⟩ := Ks j hj
      rw [k2]
      exact nI_ne0 (by omega) (by omega)
    have f2 : kb1 ((s * 7 + c) * 19 + 2) = 0 := by rw [b1.2.2.1, x0]; rfl
    have nrj : ∀ j, j ≤ c → bk_nr (fun j => kb1 ((s * 7 + j) * 19 + 2)) 0 j = j := fun j hj => bk_nr_all _ _ j (fun i hi => f1 i (by omega))
    have nrc : bk_nr (fun j => kb1 ((s * 7 + j) * 19 + 2)) 0 (c + 1) = c := by rw [bk_nr_eq (fun j => kb1 ((s * 7 + j) * 19 + 2)) 0 (n := c) f2]; exact nrj c (Nat.le_refl _)
    have kcu : upd (upd kc s (nI (c + 1))) s (nI c) = kc := by rw [bk_uu]; exact bk_uid kc s _ hc'
    refine ⟨d, pl, md, cr, bg, bk_cw 19 kb1 (s * 7) (fun j => kb1 ((s * 7 + j) * 19 + 2)) 0 (c + 1), bk_c1 kl1 (s * 7) (fun j => kb1 ((s * 7 + j) * 19 + 2)) 0 (c + 1), kc, kw, kh, kf, kz, ky, dk_mono h1 (by omega), r1, ?_, hbg, fun r _ => by rw [t1], ?_, ?_⟩
    · refine bk_K_beyond K hs hc' hc6 (fun p k hp28 hp hk => ?_) (fun p hp28 hp => ?_)
      · rw [← o1 p k hp hk]
        by_cases z : s * 7 ≤ p ∧ p < s * 7 + c
        · have := bk_cw_i 19 kb1 (s * 7) (fun j => kb1 ((s * 7 + j) * 19 + 2)) 0 (c + 1) (p - s * 7) k hk (by omega) (f1 (p - s * 7) (by omega))
          rw [nrj (p - s * 7) (by omega), show s * 7 + (p - s * 7) = p by omega] at this
          exact this
        · exact bk_cw_o 19 kb1 (s * 7) _ 0 (c + 1) p k hk (by rw [nrc]; omega)
      · have lk : kl1 p = kl p := by rw [← hkl1]; exact pk_un hp
        rw [← lk]
        by_cases z : s * 7 ≤ p ∧ p < s * 7 + c
        · have := bk_c1_i kl1 (s * 7) (fun j => kb1 ((s * 7 + j) * 19 + 2)) 0 (c + 1) (p - s * 7) (by omega) (f1 (p - s * 7) (by omega))
          rw [nrj (p - s * 7) (by omega), show s * 7 + (p - s * 7) = p by omega] at this
          exact this
        · exact bk_c1_o kl1 (s * 7) _ 0 (c + 1) p (by rw [nrc]; omega)
    · intro lf cd pb pn xp fh fl fa mk cb mi mb ml co pa post hpa hp
      refine road post hpa ?_
      unfold wX_doCommand_167
      refine xk_keep hs hc6 (by omega) hc' ?_
      rw [mvc pa hpa, hkl1]
      refine br_t (by rw [hpa 2 (by omega), x0]; rfl) ⟨pk_in s 4 hs, ?_⟩
      rw [cs, pk_us]
      refine nm_e ⟨2 + c, ?_⟩
      refine xk_skip0 (f := 2) hs (by omega) (fun j hj => nI_ge (by omega) (by omega)) f1 ?_
      refine x1 _ 1 c 0 (nI (c + 1)) (by omega) b1.1 b1.2.1 f2 (by rw [← hkl1, pk_us, em]) b1.2.2.2 (nI_ge (by omega) (by omega)) ?_
      refine br_t (nI_le (Nat.le_refl _) (by omega)) ?_
      refine xk_dropKept (c := c + 1) hs (by omega) pk_us ?_
      rw [nrc, kcu]
      exact hp
    · intro lf cd pb pn yp ki le go mk cb mb ml la ps pd pt wo be wr hwo
      refine ⟨wo, fun post hp => roadY post hwo ?_⟩
      rw [x0]
      exact y1 _ (fun j hj => hwo _ (by omega)) (br_f (by decide) hp)
  · -- kept
    have hc5 : c < 6 := by
      rcases k3.2.2 with z | z
      · exact absurd z x0
      · exact z.2
    have hbeg : bk_Beg b (v 2) := by
      rcases k3.2.2 with z | z
      · exact absurd z x0
      · exact z.1
    have x12 : v 2 = 1 ∨ v 2 = 2 := by
      rcases hbeg with z | z
      · exact Or.inl z.1
      · exact Or.inr z.1
    have b1 := bi (fun j => nI (v j)) (fun _ _ => rfl)
    refine ⟨(A, g, ob, ol, gc, lc, lr, gv, th, hc, hg, hi, ib, il, it, qi, qc, ta, wh, od, tg, tr, so, bd, fr, en), pl, md, cr, bg, bk_mv kb ((s * 7 + c) * 19) (fun j => nI (v j)) m, upd kl (s * 7 + c) (nI m), upd kc s (nI (c + 1)), upd kw (6 * s + c) (nI (v 0)), upd kh (6 * s + c) (nI (v 1)), upd kf (6 * s + c) (nI (v 2)), upd kz (6 * s + c) (nI (m - 3)), bk_mv ky ((6 * s + c) * 16) (fun k => nI (v (3 + k))) (m - 3), dk_mono h (by omega), rh, ?_, hbg, fun _ _ => rfl, ?_, ?_⟩
    · refine bk_K_more (w := v 0) (a := v 1) (x := v 2) (n := m - 3) K hs hc' hc5 (fun p k hp28 hp hk => bo _ p k hp hk) (fun p _ hp => pk_un hp) (fun p hp => pk_un hp) (fun p hp => pk_un hp) (fun p hp => pk_un hp) (fun p hp => pk_un hp) (fun p k hp hk => bk_mv_o ky _ _ _ _ (by omega)) ?_
      refine ⟨kd, x12, b1.1, b1.2.1, b1.2.2.1, by rw [pk_us, em], pk_us, pk_us, pk_us, pk_us, fun j hj => ?_⟩
      rw [b1.2.2.2 j hj, Nat.mul_comm 16 (6 * s + c), bk_mv_i ky _ _ _ j hj]
    · intro lf cd pb pn xp fh fl fa mk cb mi mb ml co pa post hpa hp
      refine road post hpa ?_
      unfold wX_doCommand_167
      refine xk_keep hs hc6 (by omega) hc' ?_
      rw [mvc pa hpa]
      exact br_f (by rw [hpa 2 (by omega)]; exact nI_ne0 (by omega) (by omega)) hp
    · intro lf cd pb pn yp ki le go mk cb mb ml la ps pd pt wo be wr hwo
      refine ⟨wo, fun post hp => roadY post hwo ?_⟩
      refine yk_keep hs hc5 (by omega) hc' (nI_ne0 (by omega) (by omega)) ?_
      rw [bk_mv_congr ky ((6 * s + c) * 16) (fun k => wo (3 + k)) (fun k => nI (v (3 + k))) (m - 3) (fun j hj => hwo _ (by omega))]
      exact br_f (by decide) hp
theorem lk_cmd7 {B : Nat} {A : Nat → List bk_E} {g : Nat → Nat} {ob : Nat → Int32} {ol : Nat → Int32} {gc : Nat → Int32} {lc : Nat → Int32} {lr : Nat → Int32} {gv : Nat → Int32} {th : Nat → Int32} {hc : Nat → Int32} {hg : Nat → Int32} {hi : Nat → Int32} {ib : Nat → Int32} {il : Nat → Int32} {it : Nat → Int32} {qi : Nat → Int32} {qc : Nat → Int32} {ta : Nat → Int32} {wh : Nat → Int32} {od : Nat → Int32} {tg : Nat → Int32} {tr : Nat → Int32} {so : Nat → Int32} {bd : Nat → Int32} {fr : Int32} {en : Int32} {bg kb kl kc kw kh kf kz ky : Nat → Int32} (h : bk_C B A g st ol th pl md cr lr gv ib il it qi qc ta wh od tg tr so bd fr en) (rh : bk_RH A hi hg hc) (K : ∀ z, z < 4 → bk_K kc kb kl kw kh kf kz ky z) (hbg : ∀ z, z < 4 → ∃ b, b < 4 ∧ bg z = nI b) (hB : B + 112 ≤ 100000000) {s m b c : Nat} {v : Nat → Nat} (hs : s < 4) (hm1 : 1 ≤ m) (hm : m ≤ 200) (hv : ∀ j, v j < 256) (hb : bg s = nI b) (hb4 : b < 4) (hc' : kc s = nI c) (hc6 : c ≤ 6) (valid : bk_Vd th s m b c v) (k : v 0 = 7) :
    ∃ (d : bk_DT) (pl' md' cr' bg' kb' kl' kc' kw' kh' kf' kz' ky' : Nat → Int32), bk_C (B + 112) (zz_A d) (zz_g d) st (zz_ol d) (zz_th d) pl' md' cr' (zz_lr d) (zz_gv d) (zz_ib d) (zz_il d) (zz_it d) (zz_qi d) (zz_qc d) (zz_ta d) (zz_wh d) (zz_od d) (zz_tg d) (zz_tr d) (zz_so d) (zz_bd d) (zz_fr d) (zz_en d) ∧ bk_RH (zz_A d) (zz_hi d) (zz_hg d) (zz_hc d) ∧ (∀ z, z < 4 → bk_K kc' kb' kl' kw' kh' kf' kz' ky' z) ∧ (∀ z, z < 4 → ∃ b, b < 4 ∧ bg' z = nI b) ∧ (∀ r, r / 4 ≠ s → zz_th d r = th r) ∧
      (∀ {lf cd pb pn xp fh fl fa mk cb mi mb ml co : Nat → Int32} (pa : Nat → Int32) (post : SX → Prop), (∀ j, j < m → pa j = nI (v j)) → post (nI m, st, lf, cd, bg', zz_gv d, zz_ob d, zz_ol d, pb, pn, xp, fh, fl, fa, mk, cb, mi, mb, ml, pa, kb', kl', kc', zz_th d, pl', md', cr', zz_hc d, zz_hg d, zz_hi d, zz_ib d, zz_il d, zz_it d, zz_qi d, zz_qc d, zz_gc d, zz_lc d, zz_lr d, co) → wpX_doCommand post (nI m, st, lf, cd, bg, gv, ob, ol, pb, pn, xp, fh, fl, fa, mk, cb, mi, mb, ml, pa, kb, kl, kc, th, pl, md, cr, hc, hg, hi, ib, il, it, qi, qc, gc, lc, lr, co) (nI s)) ∧
      (∀ {lf cd pb pn yp ki le go mk cb mb ml la ps pd pt wo be : Nat → Int32} {wr : Int32}, (∀ j, j < m → wo j = nI (v j)) → ∃ wo' : Nat → Int32, ∀ (post : Int32 → SY → Prop), post 1 (zz_fr d, zz_en d, nI m, wr, st, lf, cd, zz_ta d, bg', kc', zz_ob d, zz_ol d, pb, pn, yp, ki, le, go, mk, cb, mb, ml, la, ps, pd, pt, kw', kh', kf', kz', ky', zz_th d, pl', md', cr', zz_gc d, zz_lc d, zz_lr d, zz_wh d, zz_od d, zz_tg d, zz_tr d, zz_so d, zz_bd d, wo', be) → wpY_command post (fr, en, nI m, wr, st, lf, cd, ta, bg, kc, ob, ol, pb, pn, yp, ki, le, go, mk, cb, mb, ml, la, ps, pd, pt, kw, kh, kf, kz, ky, th, pl, md, cr, gc, lc, lr, wh, od, tg, tr, so, bd, wo, be) (nI s)) := by
  have cs : (nI s).toNatClampNeg = s := nI_clamp (by omega)
  have hv0 := hv 0
  have hv1 := hv 1
  have hv2 := hv 2
  have hv3 := hv 3
  have hv4 := hv 4
  obtain ⟨e5, q1⟩ := (vd_7 k).mp valid
  have v12 : v 1 = 1 ∨ v 1 = 2 := by
    rcases q1 with z | z
    · exact Or.inl z.1
    · exact Or.inr z.1
  obtain ⟨b', hb', eb⟩ := bk_band b hb4 (v 1) (by omega)
  obtain ⟨c', _, ec, Ks⟩ := K s hs
  rw [hc'] at ec
  have ec : c = c' := (nI_eq (by omega) (by omega)).mp ec
  subst ec
  obtain ⟨nrE, KK⟩ := bk_K_close K (x := v 1) hs (by omega) hc' hc6
  have e6 : 6 * nI s = nI (6 * s) := bn_mul2 s 6
  obtain ⟨d, h1, r1, t1, x1, y1⟩ := lk_close (ob := ob) (gc := gc) (lc := lc) (x := v 1) (c := c) hs v12 hc6 Ks c (Nat.le_refl _) h rh (by omega)
  simp only [Nat.sub_self] at x1
  refine ⟨d, pl, md, cr, upd bg s (bg s &&& (nI (v 1) ^^^ (-1))), bk_cw 19 kb (s * 7) (fun j => kb ((s * 7 + j) * 19 + 2)) (nI (v 1)) c, bk_c1 kl (s * 7) (fun j => kb ((s * 7 + j) * 19 + 2)) (nI (v 1)) c, upd kc s (nI (bk_nr (fun j => kf (6 * s + j)) (nI (v 1)) c)), bk_c1 kw (6 * s) (fun j => kf (6 * s + j)) (nI (v 1)) c, bk_c1 kh (6 * s) (fun j => kf (6 * s + j)) (nI (v 1)) c, bk_c1 kf (6 * s) (fun j => kf (6 * s + j)) (nI (v 1)) c, bk_c1 kz (6 * s) (fun j => kf (6 * s + j)) (nI (v 1)) c, bk_cw 16 ky (6 * s) (fun j => kf (6 * s + j)) (nI (v 1)) c, dk_mono h1 (by omega), r1, KK, ?_, fun r _ => by rw [t1], ?_, ?_⟩
  · intro z hz
    by_cases e : z = s
    · subst e
      exact ⟨b', hb', by rw [pk_us, hb]; exact eb⟩
    · rw [pk_un e]; exact hbg z hz
  · intro lf cd pb pn xp fh fl fa mk cb mi mb ml co pa post hpa hp
    refine nm_r (hpa 1 (by omega)) (nm_r (by rw [hpa 0 (by omega), k]) ?_)
    refine br_f (by decide) (br_f (by decide) (br_f (by decide) (br_f (by decide) (br_f (by decide) (br_f (by decide) (br_f (by decide) (br_f (by decide) (br_t rfl (?_)))))))))
    refine ⟨pk_in s 4 hs, ?_⟩
    rw [cs, hc']
    refine nm_e ⟨c + 1, x1 _ (c + 1) (by omega) ?_⟩
    refine xk_dropKept (c := c) hs (by omega) hc' ⟨pk_in s 4 hs, pk_in s 4 hs, ?_⟩
    rw [nrE]
    exact nm_e hp
  · intro lf cd pb pn yp ki le go mk cb mb ml la ps pd pt wo be wr hwo
    obtain ⟨wo', y2⟩ := y1 (lf := lf) (cd := cd) (bg := upd bg s (bg s &&& (nI (v 1) ^^^ (-1)))) (kc := kc) (pb := pb) (pn := pn) (yp := yp) (ki := ki) (le := le) (go := go) (mk := mk) (cb := cb) (mb := mb) (ml := ml) (la := la) (ps := ps) (pd := pd) (pt := pt) (wo := wo) (be := be) (ma := nI m) (wr := wr)
    refine ⟨wo', fun post hp => yk_command hs hm1 hm hv hwo hb hb4 hc' hc6 (fun z => absurd valid z) (fun _ z => by omega) (fun _ z => by omega) (fun _ z => by omega) (fun _ z => by omega) (fun _ z => by omega) (fun _ _ => ?_) (fun _ z => by omega) (fun _ z => by omega)⟩
    refine ⟨pk_in s 4 hs, ?_⟩
    rw [cs, hc', e6]
    refine nm_e ⟨pk_in s 4 hs, pk_in s 4 hs, nm_e (nm_e ⟨c + 1, ?_⟩)⟩
    have yy := y2 (fun r u => match u with | (fr, en, ma, wr, st, lf, cd, ta, bg, kc, ob, ol, pb, pn, yp, ki, le, go, mk, cb, mb, ml, la, ps, pd, pt, kw, kh, kf, kz, ky, th, pl, md, cr, gc, lc, lr, wh, od, tg, tr, so, bd, wo, be) => ((r = 0 → post 0 (fr, en, ma, wr, st, lf, cd, ta, bg, kc, ob, ol, pb, pn, yp, ki, le, go, mk, cb, mb, ml, la, ps, pd, pt, kw, kh, kf, kz, ky, th, pl, md, cr, gc, lc, lr, wh, od, tg, tr, so, bd, wo, be)) ∧ (¬ r = 0 → post 1 (fr, en, ma, wr, st, lf, cd, ta, bg, kc, ob, ol, pb, pn, yp, ki, le, go, mk, cb, mb, ml, la, ps, pd, pt, kw, kh, kf, kz, ky, th, pl, md, cr, gc, lc, lr, wh, od, tg, tr, so, bd, wo, be)))) (c + 1) (by omega) (br_f (by decide) hp)
    rw [Nat.sub_self] at yy
    exact yy
theorem lk_cmd8 {B : Nat} {A : Nat → List bk_E} {g : Nat → Nat} {ob : Nat → Int32} {ol : Nat → Int32} {gc : Nat → Int32} {lc : Nat → Int32} {lr : Nat → Int32} {gv : Nat → Int32} {th : Nat → Int32} {hc : Nat → Int32} {hg : Nat → Int32} {hi : Nat → Int32} {ib : Nat → Int32} {il : Nat → Int32} {it : Nat → Int32} {qi : Nat → Int32} {qc : Nat → Int32} {ta : Nat → Int32} {wh : Nat → Int32} {od : Nat → Int32} {tg : Nat → Int32} {tr : Nat → Int32} {so : Nat → Int32} {bd : Nat → Int32} {fr : Int32} {en : Int32} {bg kb kl kc kw kh kf kz ky : Nat → Int32} (h : bk_C B A g st ol th pl md cr lr gv ib il it qi qc ta wh od tg tr so bd fr en) (rh : bk_RH A hi hg hc) (K : ∀ z, z < 4 → bk_K kc kb kl kw kh kf kz ky z) (hbg : ∀ z, z < 4 → ∃ b, b < 4 ∧ bg z = nI b) (hB : B + 112 ≤ 100000000) {s m b c : Nat} {v : Nat → Nat} (hs : s < 4) (hm1 : 1 ≤ m) (hm : m ≤ 200) (hv : ∀ j, v j < 256) (hb : bg s = nI b) (hb4 : b < 4) (hc' : kc s = nI c) (hc6 : c ≤ 6) (valid : bk_Vd th s m b c v) (k : v 0 = 8) :
    ∃ (d : bk_DT) (pl' md' cr' bg' kb' kl' kc' kw' kh' kf' kz' ky' : Nat → Int32), bk_C (B + 112) (zz_A d) (zz_g d) st (zz_ol d) (zz_th d) pl' md' cr' (zz_lr d) (zz_gv d) (zz_ib d) (zz_il d) (zz_it d) (zz_qi d) (zz_qc d) (zz_ta d) (zz_wh d) (zz_od d) (zz_tg d) (zz_tr d) (zz_so d) (zz_bd d) (zz_fr d) (zz_en d) ∧ bk_RH (zz_A d) (zz_hi d) (zz_hg d) (zz_hc d) ∧ (∀ z, z < 4 → bk_K kc' kb' kl' kw' kh' kf' kz' ky' z) ∧ (∀ z, z < 4 → ∃ b, b < 4 ∧ bg' z = nI b) ∧ (∀ r, r / 4 ≠ s → zz_th d r = th r) ∧
      (∀ {lf cd pb pn xp fh fl fa mk cb mi mb ml co : Nat → Int32} (pa : Nat → Int32) (post : SX → Prop), (∀ j, j < m → pa j = nI (v j)) → post (nI m, st, lf, cd, bg', zz_gv d, zz_ob d, zz_ol d, pb, pn, xp, fh, fl, fa, mk, cb, mi, mb, ml, pa, kb', kl', kc', zz_th d, pl', md', cr', zz_hc d, zz_hg d, zz_hi d, zz_ib d, zz_il d, zz_it d, zz_qi d, zz_qc d, zz_gc d, zz_lc d, zz_lr d, co) → wpX_doCommand post (nI m, st, lf, cd, bg, gv, ob, ol, pb, pn, xp, fh, fl, fa, mk, cb, mi, mb, ml, pa, kb, kl, kc, th, pl, md, cr, hc, hg, hi, ib, il, it, qi, qc, gc, lc, lr, co) (nI s)) ∧
      (∀ {lf cd pb pn yp ki le go mk cb mb ml la ps pd pt wo be : Nat → Int32} {wr : Int32}, (∀ j, j < m → wo j = nI (v j)) → ∃ wo' : Nat → Int32, ∀ (post : Int32 → SY → Prop), post 1 (zz_fr d, zz_en d, nI m, wr, st, lf, cd, zz_ta d, bg', kc', zz_ob d, zz_ol d, pb, pn, yp, ki, le, go, mk, cb, mb, ml, la, ps, pd, pt, kw', kh', kf', kz', ky', zz_th d, pl', md', cr', zz_gc d, zz_lc d, zz_lr d, zz_wh d, zz_od d, zz_tg d, zz_tr d, zz_so d, zz_bd d, wo', be) → wpY_command post (fr, en, nI m, wr, st, lf, cd, ta, bg, kc, ob, ol, pb, pn, yp, ki, le, go, mk, cb, mb, ml, la, ps, pd, pt, kw, kh, kf, kz, ky, th, pl, md, cr, gc, lc, lr, wh, od, tg, tr, so, bd, wo, be) (nI s)) := by
  have cs : (nI s).toNatClampNeg = s := nI_clamp (by omega)
  have hv0 := hv 0
  have hv1 := hv 1
  have hv2 := hv 2
  have hv3 := hv 3
  have hv4 := hv 4
  obtain ⟨e5, q1⟩ := (vd_8 k).mp valid
  have v12 : v 1 = 1 ∨ v 1 = 2 := by
    rcases q1 with z | z
    · exact Or.inl z.1
    · exact Or.inr z.1
  obtain ⟨b', hb', eb⟩ := bk_band b hb4 (v 1) (by omega)
  obtain ⟨c', _, ec, Ks⟩ := K s hs
  rw [hc'] at ec
  have ec : c = c' := (nI_eq (by omega) (by omega)).mp ec
  subst ec
  obtain ⟨nrE, KK⟩ := bk_K_close K (x := v 1) hs (by omega) hc' hc6
  have e6 : 6 * nI s = nI (6 * s) := bn_mul2 s 6
  refine ⟨(A, g, ob, ol, gc, lc, lr, gv, th, hc, hg, hi, ib, il, it, qi, qc, ta, wh, od, tg, tr, so, bd, fr, en), pl, md, cr, upd bg s (bg s &&& (nI (v 1) ^^^ (-1))), bk_cw 19 kb (s * 7) (fun j => kb ((s * 7 + j) * 19 + 2)) (nI (v 1)) c, bk_c1 kl (s * 7) (fun j => kb ((s * 7 + j) * 19 + 2)) (nI (v 1)) c, upd kc s (nI (bk_nr (fun j => kf (6 * s + j)) (nI (v 1)) c)), bk_c1 kw (6 * s) (fun j => kf (6 * s + j)) (nI (v 1)) c, bk_c1 kh (6 * s) (fun j => kf (6 * s + j)) (nI (v 1)) c, bk_c1 kf (6 * s) (fun j => kf (6 * s + j)) (nI (v 1)) c, bk_c1 kz (6 * s) (fun j => kf (6 * s + j)) (nI (v 1)) c, bk_cw 16 ky (6 * s) (fun j => kf (6 * s + j)) (nI (v 1)) c, dk_mono h (by omega), rh, KK, ?_, fun r _ => rfl, ?_, ?_⟩
  · intro z hz
    by_cases e : z = s
    · subst e
      exact ⟨b', hb', by rw [pk_us, hb]; exact eb⟩
    · rw [pk_un e]; exact hbg z hz
  · intro lf cd pb pn xp fh fl fa mk cb mi mb ml co pa post hpa hp
    refine nm_r (hpa 1 (by omega)) (nm_r (by rw [hpa 0 (by omega), k]) ?_)
    refine br_f (by decide) (br_f (by decide) (br_f (by decide) (br_f (by decide) (br_f (by decide) (br_f (by decide) (br_f (by decide) (br_f (by decide) (br_f (by decide) (br_t rfl (?_))))))))))
    refine xk_dropKept (c := c) hs (by omega) hc' ⟨pk_in s 4 hs, pk_in s 4 hs, ?_⟩
    rw [cs, nrE]
    exact nm_e hp
  · intro lf cd pb pn yp ki le go mk cb mb ml la ps pd pt wo be wr hwo
    obtain ⟨wo', y2⟩ := yk_close0 (x := v 1) (c := c) (kb := kb) (kl := kl) (kw := kw) (kh := kh) (kf := kf) (kz := kz) (ky := ky) (st := st) (pl := pl) (md := md) (cr := cr) (ob := ob) (ol := ol) (gc := gc) (lc := lc) (lr := lr) (th := th) (ta := ta) (wh := wh) (od := od) (tg := tg) (tr := tr) (so := so) (bd := bd) (fr := fr) (en := en) (lf := lf) (cd := cd) (bg := upd bg s (bg s &&& (nI (v 1) ^^^ (-1)))) (kc := kc) (pb := pb) (pn := pn) (yp := yp) (ki := ki) (le := le) (go := go) (mk := mk) (cb := cb) (mb := mb) (ml := ml) (la := la) (ps := ps) (pd := pd) (pt := pt) (be := be) (ma := nI m) (wr := wr) hs (by omega) hc6 Ks c (Nat.le_refl _) wo
    refine ⟨wo', fun post hp => yk_command hs hm1 hm hv hwo hb hb4 hc' hc6 (fun z => absurd valid z) (fun _ z => by omega) (fun _ z => by omega) (fun _ z => by omega) (fun _ z => by omega) (fun _ z => by omega) (fun _ z => by omega) (fun _ _ => ?_) (fun _ z => by omega)⟩
    refine ⟨pk_in s 4 hs, ?_⟩
    rw [cs, hc', e6]
    refine nm_e ⟨pk_in s 4 hs, pk_in s 4 hs, nm_e (nm_e ⟨c + 1, ?_⟩)⟩
    have yy := y2 (fun r u => match u with | (fr, en, ma, wr, st, lf, cd, ta, bg, kc, ob, ol, pb, pn, yp, ki, le, go, mk, cb, mb, ml, la, ps, pd, pt, kw, kh, kf, kz, ky, th, pl, md, cr, gc, lc, lr, wh, od, tg, tr, so, bd, wo, be) => ((r = 0 → post 0 (fr, en, ma, wr, st, lf, cd, ta, bg, kc, ob, ol, pb, pn, yp, ki, le, go, mk, cb, mb, ml, la, ps, pd, pt, kw, kh, kf, kz, ky, th, pl, md, cr, gc, lc, lr, wh, od, tg, tr, so, bd, wo, be)) ∧ (¬ r = 0 → post 1 (fr, en, ma, wr, st, lf, cd, ta, bg, kc, ob, ol, pb, pn, yp, ki, le, go, mk, cb, mb, ml, la, ps, pd, pt, kw, kh, kf, kz, ky, th, pl, md, cr, gc, lc, lr, wh, od, tg, tr, so, bd, wo, be)))) (c + 1) (by omega) (br_f (by decide) hp)
    rw [Nat.sub_self] at yy
    exact yy
end CMD2
