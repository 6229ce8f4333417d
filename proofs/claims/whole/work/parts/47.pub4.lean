theorem iv_big {x : Int32} {K : Nat} (hK : K < 1000) (h : nI (K + 1) ≤ x) : ¬ x < 0 ∧ nI K < x := by
  rw [Int32.le_iff_toInt_le, nI_toInt (by omega)] at h
  rw [Int32.lt_iff_toInt_lt, Int32.lt_iff_toInt_lt, nI_toInt (by omega), show (0 : Int32).toInt = 0 from by decide]
  omega
theorem i_vc_subscription {k : Nat} {u : SX} {v : SY} (I : i_Rel k u v) (hk : k + 5 ≤ 2560) (v1 : Int32) (v2 : Int32) (v3 : Int32) : wpX_subscription (fun r => wpY_subscription (fun r' => r' = r ∧ i_Rel (k + 5) u v) v v1 v2 v3) u v1 v2 v3 := by
  obtain ⟨A, g, px, st, lf, cd, bg, gv, ob, ol, pb, pn, xp, fh, fl, fa, mk, cb, mi, mb, ml, pa, kb, kl, kc, th, pl, md, cr, hc, hg, hi, ib, il, it, qi, qc, gc, lc, lr, co, fr, en, ma, wr, ta, yp, ki, le, go, la, ps, pd, pt, kw, kh, kf, kz, ky, wh, od, tg, tr, so, bd, wo, be, rfl, rfl, h⟩ := I
  have same : i_Rel (k + 5) (px, st, lf, cd, bg, gv, ob, ol, pb, pn, xp, fh, fl, fa, mk, cb, mi, mb, ml, pa, kb, kl, kc, th, pl, md, cr, hc, hg, hi, ib, il, it, qi, qc, gc, lc, lr, co) (fr, en, ma, wr, st, lf, cd, ta, bg, kc, ob, ol, pb, pn, yp, ki, le, go, mk, cb, mb, ml, la, ps, pd, pt, kw, kh, kf, kz, ky, th, pl, md, cr, gc, lc, lr, wh, od, tg, tr, so, bd, wo, be) := ⟨A, g, px, st, lf, cd, bg, gv, ob, ol, pb, pn, xp, fh, fl, fa, mk, cb, mi, mb, ml, pa, kb, kl, kc, th, pl, md, cr, hc, hg, hi, ib, il, it, qi, qc, gc, lc, lr, co, fr, en, ma, wr, ta, yp, ki, le, go, la, ps, pd, pt, kw, kh, kf, kz, ky, wh, od, tg, tr, so, bd, wo, be, rfl, rfl, bk_S_mono h (by omega)⟩
  unfold wpX_subscription
  rcases pk_ix v1 (n := 4) (by omega) with a | a | ⟨s, hs, rfl⟩
  · refine xk_isS0 (Or.inl a) (br_t rfl ?_)
    unfold wpY_subscription
    exact yk_in0 (N := 4) (Or.inl a) (br_t rfl ⟨rfl, same⟩)
  · refine xk_isS0 (Or.inr a) (br_t rfl ?_)
    unfold wpY_subscription
    exact yk_in0 (N := 4) (Or.inr a) (br_t rfl ⟨rfl, same⟩)
  · refine xk_isS1 hs (br_f (by decide) ?_)
    rcases pk_ix v2 (n := 4) (by omega) with q | q | ⟨j, hj, rfl⟩
    · refine br_t q ?_
      unfold wpY_subscription
      exact yk_in1 (N := 4) hs (by omega) (br_f (by decide) (yk_in0 (N := 4) (Or.inl q) (br_t rfl ⟨rfl, same⟩)))
    · have yb : wpY_subscription (fun r' => r' = -1 ∧ i_Rel (k + 5) (px, st, lf, cd, bg, gv, ob, ol, pb, pn, xp, fh, fl, fa, mk, cb, mi, mb, ml, pa, kb, kl, kc, th, pl, md, cr, hc, hg, hi, ib, il, it, qi, qc, gc, lc, lr, co) (fr, en, ma, wr, st, lf, cd, ta, bg, kc, ob, ol, pb, pn, yp, ki, le, go, mk, cb, mb, ml, la, ps, pd, pt, kw, kh, kf, kz, ky, th, pl, md, cr, gc, lc, lr, wh, od, tg, tr, so, bd, wo, be)) (fr, en, ma, wr, st, lf, cd, ta, bg, kc, ob, ol, pb, pn, yp, ki, le, go, mk, cb, mb, ml, la, ps, pd, pt, kw, kh, kf, kz, ky, th, pl, md, cr, gc, lc, lr, wh, od, tg, tr, so, bd, wo, be) (nI s) v2 v3 := by
        unfold wpY_subscription
        exact yk_in1 (N := 4) hs (by omega) (br_f (by decide) (yk_in0 (N := 4) (Or.inr q) (br_t rfl ⟨rfl, same⟩)))
      exact br_c (fun _ => yb) (fun _ => br_f (Int32.not_lt.mpr q) yb)
    · have hr : 4 * s + j < 16 := by omega
      have e1 : nI s * 4 + nI j = nI (4 * s + j) := by rw [bn_mul, nI_add, Nat.mul_comm]
      have e2 : 4 * nI s + nI j = nI (4 * s + j) := by rw [bn_mul2, nI_add]
      have cr' : (nI (4 * s + j)).toNatClampNeg = 4 * s + j := nI_clamp (by omega)
      have i16 : vp_in (nI (4 * s + j)) 16 := vp_in_nI hr (by omega)
      have e3 : 3 + nI (4 * s + j) = nI (3 + (4 * s + j)) := bn_add2 _ 3
      have hh := h.1.2.1 _ hr
      have h5 := (dk_len h.1.1).2 _ hr
      -- Y's way to what is asked
      have yw : ∀ (post : Int32 → Prop), (th (4 * s + j) = 0 → post (-1)) → (th (4 * s + j) ≠ 0 → ∀ r8 : Int32, ((A (3 + (4 * s + j)) = [] ∧ r8 = -1) ∨ ∃ p l, A (3 + (4 * s + j)) = p :: l ∧ r8 = nI p.2.1) →
          (((v3 < 0 → (post (-1))) ∧ (¬ v3 < 0 → (((4 < v3 → (post (-1))) ∧ (¬ 4 < v3 → (((v3 = 0 → (vp_in (nI (4 * s + j)) 16 ∧ (post (pl (4 * s + j))))) ∧ (¬ v3 = 0 → (((v3 = 1 → (vp_in (nI (4 * s + j)) 16 ∧ (post (md (4 * s + j))))) ∧ (¬ v3 = 1 → (((v3 = 2 → (vp_in (nI (4 * s + j)) 16 ∧ (post (cr (4 * s + j))))) ∧ (¬ v3 = 2 → (((v3 = 3 → (wpY_count (fun r_64 => (post r_64)) (fr, en, ma, wr, st, lf, cd, ta, bg, kc, ob, ol, pb, pn, yp, ki, le, go, mk, cb, mb, ml, la, ps, pd, pt, kw, kh, kf, kz, ky, th, pl, md, cr, gc, lc, lr, wh, od, tg, tr, so, bd, wo, be) (nI (3 + (4 * s + j))))) ∧ (¬ v3 = 3 → (((v3 = 4 → (((0 ≤ r8 → (vp_in r8 112 ∧ (post (tg r8.toNatClampNeg)))) ∧ (¬ 0 ≤ r8 → (post (-1)))))) ∧ (¬ v3 = 4 → (True))))))))))))))))))))))) → wpY_subscription post (fr, en, ma, wr, st, lf, cd, ta, bg, kc, ob, ol, pb, pn, yp, ki, le, go, mk, cb, mb, ml, la, ps, pd, pt, kw, kh, kf, kz, ky, th, pl, md, cr, gc, lc, lr, wh, od, tg, tr, so, bd, wo, be) (nI s) (nI j) v3 := by
        intro post g0 g1
        unfold wpY_subscription
        refine yk_in1 (N := 4) hs (by omega) (br_f (by decide) (yk_in1 (N := 4) hj (by omega) (br_f (by decide) ?_)))
        rw [e2, cr']
        refine ⟨i16, br_c g0 (fun q => nm_e ?_)⟩
        rw [e3, cr']
        exact yk_firstAt h.1.1 (by omega) (by omega) (fun e => g1 q (-1) (Or.inl ⟨e, rfl⟩)) (fun p l e => g1 q (nI p.2.1) (Or.inr ⟨p, l, e, rfl⟩))
      refine br_f (nI_pos (by omega)) (br_t (nI_lt (b := 4) hj (by omega)) (nm_r e1 ?_))
      rw [cr']
      refine ⟨i16, br_c (fun e => ?_) (fun e => ?_)⟩
      · exact yw _ (fun _ => ⟨rfl, same⟩) (fun z => absurd e z)
      · rcases pk_ix v3 (n := 5) (by omega) with q3 | q3 | ⟨w, hw, rfl⟩
        · exact br_t q3 (yw _ (fun z => absurd z e) (fun _ r8 _ => br_t q3 ⟨rfl, same⟩))
        · obtain ⟨q4, q5⟩ := iv_big (K := 4) (by omega) q3
          exact br_f q4 (br_t q5 (yw _ (fun z => absurd z e) (fun _ r8 _ => br_f q4 (br_t q5 ⟨rfl, same⟩))))
        · have ww : w = 0 ∨ w = 1 ∨ w = 2 ∨ w = 3 ∨ w = 4 := by omega
          rcases ww with rfl | rfl | rfl | rfl | rfl
          · exact br_f (by decide) (br_f (by decide) (br_t rfl (⟨i16, yw _ (fun z => absurd z e) (fun _ r8 _ => br_f (by decide) (br_f (by decide) (br_t rfl (⟨i16, rfl, same⟩))))⟩)))
          · exact br_f (by decide) (br_f (by decide) (br_f (by decide) (br_t rfl (⟨i16, yw _ (fun z => absurd z e) (fun _ r8 _ => br_f (by decide) (br_f (by decide) (br_f (by decide) (br_t rfl (⟨i16, rfl, same⟩)))))⟩))))
          · exact br_f (by decide) (br_f (by decide) (br_f (by decide) (br_f (by decide) (br_t rfl (⟨i16, yw _ (fun z => absurd z e) (fun _ r8 _ => br_f (by decide) (br_f (by decide) (br_f (by decide) (br_f (by decide) (br_t rfl (⟨i16, rfl, same⟩))))))⟩)))))
          · refine br_f (by decide) (br_f (by decide) (br_f (by decide) (br_f (by decide) (br_f (by decide) (br_t rfl (⟨i16, yw _ (fun z => absurd z e) (fun _ r8 _ => br_f (by decide) (br_f (by decide) (br_f (by decide) (br_f (by decide) (br_f (by decide) (br_t rfl (yk_countL h.1.1 (by omega) ⟨?_, same⟩)))))))⟩))))))
            exact hh.1.symm
          · refine br_f (by decide) (br_f (by decide) (br_f (by decide) (br_f (by decide) (br_f (by decide) (br_f (by decide) (br_t rfl (⟨i16, ?_⟩)))))))
            rw [hh.1]
            cases hA : A (3 + (4 * s + j)) with
            | nil =>
              refine br_t rfl (yw _ (fun z => absurd z e) (fun _ r8 hr8 => br_f (by decide) (br_f (by decide) (br_f (by decide) (br_f (by decide) (br_f (by decide) (br_f (by decide) (br_t rfl (?_)))))))))
              rcases hr8 with ⟨_, rfl⟩ | ⟨p, l, x, _⟩
              · exact br_f (by decide) ⟨rfl, same⟩
              · rw [hA] at x; cases x
            | cons p l =>
              have hp : p ∈ A (3 + (4 * s + j)) := by rw [hA]; exact List.mem_cons_self
              have hg0 := (hh.2 0 p (by rw [hA]; rfl)).2
              have c7 := h.1.1.1.2.2.2.2.2.2.1 _ p hr hp
              have gb := (h.1.1.2.2.2.1 ((4 * s + j) / 4) (by omega)).2.2.1
              have e5 : nI (4 * s + j) * 5 = nI ((4 * s + j) * 5) := bn_mul _ 5
              have c5 : (nI ((4 * s + j) * 5)).toNatClampNeg = (4 * s + j) * 5 := nI_clamp (by omega)
              have hy := (h.1.1.1.1 _ p (by omega) hp).1
              have cy : (nI p.2.1).toNatClampNeg = p.2.1 := nI_clamp (by omega)
              rw [hA] at h5
              refine br_f (nI_ne0 (by rw [List.length_cons]; omega) (by omega)) ?_
              rw [e5, c5]
              rw [Nat.add_zero] at hg0
              rw [hg0, bn_255 _ (by omega)]
              refine ⟨vp_in_nI (by omega) (by omega), yw _ (fun z => absurd z e) (fun _ r8 hr8 => br_f (by decide) (br_f (by decide) (br_f (by decide) (br_f (by decide) (br_f (by decide) (br_f (by decide) (br_t rfl (?_))))))))⟩
              rcases hr8 with ⟨x, _⟩ | ⟨p', l', x, rfl⟩
              · rw [hA] at x; cases x
              · rw [hA] at x
                cases x
                rw [cy]
                exact br_t (nI_pos' (by omega)) ⟨vp_in_nI hy (by omega), c7.2, same⟩
theorem i_vc_place {k : Nat} {u : SX} {v : SY} (I : i_Rel k u v) (hk : k + 5 ≤ 2560) (v1 : Int32) (v2 : Int32) : wpX_place (fun r => wpY_place (fun r' => r' = r ∧ i_Rel (k + 5) u v) v v1 v2) u v1 v2 := by
  obtain ⟨A, g, px, st, lf, cd, bg, gv, ob, ol, pb, pn, xp, fh, fl, fa, mk, cb, mi, mb, ml, pa, kb, kl, kc, th, pl, md, cr, hc, hg, hi, ib, il, it, qi, qc, gc, lc, lr, co, fr, en, ma, wr, ta, yp, ki, le, go, la, ps, pd, pt, kw, kh, kf, kz, ky, wh, od, tg, tr, so, bd, wo, be, rfl, rfl, h⟩ := I
  have same : i_Rel (k + 5) (px, st, lf, cd, bg, gv, ob, ol, pb, pn, xp, fh, fl, fa, mk, cb, mi, mb, ml, pa, kb, kl, kc, th, pl, md, cr, hc, hg, hi, ib, il, it, qi, qc, gc, lc, lr, co) (fr, en, ma, wr, st, lf, cd, ta, bg, kc, ob, ol, pb, pn, yp, ki, le, go, mk, cb, mb, ml, la, ps, pd, pt, kw, kh, kf, kz, ky, th, pl, md, cr, gc, lc, lr, wh, od, tg, tr, so, bd, wo, be) := ⟨A, g, px, st, lf, cd, bg, gv, ob, ol, pb, pn, xp, fh, fl, fa, mk, cb, mi, mb, ml, pa, kb, kl, kc, th, pl, md, cr, hc, hg, hi, ib, il, it, qi, qc, gc, lc, lr, co, fr, en, ma, wr, ta, yp, ki, le, go, la, ps, pd, pt, kw, kh, kf, kz, ky, wh, od, tg, tr, so, bd, wo, be, rfl, rfl, bk_S_mono h (by omega)⟩
  unfold wpX_place
  rcases pk_ix v1 (n := 6) (by omega) with a | a | ⟨t, ht, rfl⟩
  · refine xk_isP0 (Or.inl a) (br_t rfl ?_)
    unfold wpY_place
    exact yk_in0 (N := 6) (Or.inl a) (br_t rfl ⟨rfl, same⟩)
  · refine xk_isP0 (Or.inr a) (br_t rfl ?_)
    unfold wpY_place
    exact yk_in0 (N := 6) (Or.inr a) (br_t rfl ⟨rfl, same⟩)
  · have ct : (nI t).toNatClampNeg = t := nI_clamp (by omega)
    have i6 : vp_in (nI t) 6 := pk_in t 6 ht
    refine xk_isPlace (by omega) (fun _ => br_f (by decide) ?_) (fun q => by omega)
    -- both, given what stands first
    have key : ∀ (z0 : Int32), (3 ≤ t → z0 = 0) → (t < 3 → z0 = nI (A t).length) → wX_place_28 (fun r => wpY_place (fun r' => r' = r ∧ i_Rel (k + 5) (px, st, lf, cd, bg, gv, ob, ol, pb, pn, xp, fh, fl, fa, mk, cb, mi, mb, ml, pa, kb, kl, kc, th, pl, md, cr, hc, hg, hi, ib, il, it, qi, qc, gc, lc, lr, co) (fr, en, ma, wr, st, lf, cd, ta, bg, kc, ob, ol, pb, pn, yp, ki, le, go, mk, cb, mb, ml, la, ps, pd, pt, kw, kh, kf, kz, ky, th, pl, md, cr, gc, lc, lr, wh, od, tg, tr, so, bd, wo, be)) (fr, en, ma, wr, st, lf, cd, ta, bg, kc, ob, ol, pb, pn, yp, ki, le, go, mk, cb, mb, ml, la, ps, pd, pt, kw, kh, kf, kz, ky, th, pl, md, cr, gc, lc, lr, wh, od, tg, tr, so, bd, wo, be) (nI t) v2) (nI t) v2 z0 px st lf cd bg gv ob ol pb pn xp fh fl fa mk cb mi mb ml pa kb kl kc th pl md cr hc hg hi ib il it qi qc gc lc lr co := by
      intro z0 hz3 hz0
      have yw : ∀ (post : Int32 → Prop), (∀ z1 : Int32, ((3 ≤ t ∨ A t = []) ∧ z1 = -1) ∨ (t < 3 ∧ ∃ p l, A t = p :: l ∧ z1 = nI p.2.1) → wY_place_25 post (nI t) v2 z1 fr en ma wr st lf cd ta bg kc ob ol pb pn yp ki le go mk cb mb ml la ps pd pt kw kh kf kz ky th pl md cr gc lc lr wh od tg tr so bd wo be) → wpY_place post (fr, en, ma, wr, st, lf, cd, ta, bg, kc, ob, ol, pb, pn, yp, ki, le, go, mk, cb, mb, ml, la, ps, pd, pt, kw, kh, kf, kz, ky, th, pl, md, cr, gc, lc, lr, wh, od, tg, tr, so, bd, wo, be) (nI t) v2 := by
        intro post g
        unfold wpY_place
        refine yk_in1 (N := 6) ht (by omega) (br_f (by decide) (pk_le 3 t (fun q => g (-1) (Or.inl ⟨Or.inl q, rfl⟩)) (fun q => ?_)))
        exact yk_firstAt h.1.1 (by omega) (by omega) (fun e => g (-1) (Or.inl ⟨Or.inr e, rfl⟩)) (fun p l e => g (nI p.2.1) (Or.inr ⟨q, p, l, e, rfl⟩))
      rcases pk_ix v2 (n := 5) (by omega) with q3 | q3 | ⟨w, hw, rfl⟩
      · exact br_t q3 (yw _ (fun z1 _ => br_t q3 ⟨rfl, same⟩))
      · obtain ⟨q4, q5⟩ := iv_big (K := 4) (by omega) q3
        exact br_f q4 (br_t q5 (yw _ (fun z1 _ => br_f q4 (br_t q5 ⟨rfl, same⟩))))
      · have ww : w = 0 ∨ w = 1 ∨ w = 2 ∨ w = 3 ∨ w = 4 := by omega
        rcases ww with rfl | rfl | rfl | rfl | rfl
        · refine br_f (by decide) (br_f (by decide) (br_t rfl (yw _ (fun z1 _ => br_f (by decide) (br_f (by decide) (br_t rfl (pk_le 3 t (fun q => ⟨(hz3 q).symm, same⟩) (fun q => ?_))))))))
          exact yk_countL h.1.1 (by omega) ⟨(hz0 q).symm, same⟩
        · exact br_f (by decide) (br_f (by decide) (br_f (by decide) (br_t rfl (⟨i6, yw _ (fun z1 _ => br_f (by decide) (br_f (by decide) (br_f (by decide) (br_t rfl (⟨i6, rfl, same⟩)))))⟩))))
        · exact br_f (by decide) (br_f (by decide) (br_f (by decide) (br_f (by decide) (br_t rfl (⟨i6, yw _ (fun z1 _ => br_f (by decide) (br_f (by decide) (br_f (by decide) (br_f (by decide) (br_t rfl (⟨i6, rfl, same⟩))))))⟩)))))
        · exact br_f (by decide) (br_f (by decide) (br_f (by decide) (br_f (by decide) (br_f (by decide) (br_t rfl (⟨i6, yw _ (fun z1 _ => br_f (by decide) (br_f (by decide) (br_f (by decide) (br_f (by decide) (br_f (by decide) (br_t rfl (⟨i6, rfl, same⟩)))))))⟩))))))
        · refine br_f (by decide) (br_f (by decide) (br_f (by decide) (br_f (by decide) (br_f (by decide) (br_f (by decide) (br_t rfl (?_)))))))
          by_cases t3 : t < 3
          · have h8 := (dk_len h.1.1).1 t t3
            have hq := h.1.1.2.1 t t3
            rw [hz0 t3]
            cases hA : A t with
            | nil =>
              refine br_t rfl (yw _ (fun z1 hz1 => br_f (by decide) (br_f (by decide) (br_f (by decide) (br_f (by decide) (br_f (by decide) (br_f (by decide) (br_t rfl (?_)))))))))
              rcases hz1 with ⟨_, rfl⟩ | ⟨_, p, l, x, _⟩
              · exact br_f (by decide) ⟨rfl, same⟩
              · rw [hA] at x; cases x
            | cons p l =>
              have hp : p ∈ A t := by rw [hA]; exact List.mem_cons_self
              have qi0 := hq.2 0 p (by rw [hA]; rfl)
              rw [Nat.add_zero] at qi0
              rcases (h.1.1.1.1 t p (by omega) hp).2.2.1 with ⟨_, q, n, tt, o1, o2, o3, o4, o5, o6, o7, o8, o9, o10⟩ | ⟨x, _⟩
              rotate_left
              · exact absurd (Or.inl t3) x
              have e8 : nI t * 8 = nI (t * 8) := bn_mul t 8
              have c8 : (nI (t * 8)).toNatClampNeg = t * 8 := nI_clamp (by omega)
              have cq : (nI q).toNatClampNeg = q := nI_clamp (by omega)
              have hy := (h.1.1.1.1 t p (by omega) hp).1
              have cy : (nI p.2.1).toNatClampNeg = p.2.1 := nI_clamp (by omega)
              rw [hA] at h8
              refine br_f (nI_ne0 (by rw [List.length_cons]; omega) (by omega)) ?_
              rw [e8, c8, qi0, o2, cq, o8]
              refine ⟨vp_in_nI (by omega) (by omega), vp_in_nI (by omega) (by omega), yw _ (fun z1 hz1 => br_f (by decide) (br_f (by decide) (br_f (by decide) (br_f (by decide) (br_f (by decide) (br_f (by decide) (br_t rfl (?_))))))))⟩
              rcases hz1 with ⟨x | x, _⟩ | ⟨_, p', l', x, rfl⟩
              · omega
              · rw [hA] at x; cases x
              · rw [hA] at x
                cases x
                rw [cy, o9]
                exact br_t (nI_pos' (by omega)) ⟨vp_in_nI hy (by omega), rfl, same⟩
          · rw [hz3 (by omega)]
            refine br_t rfl (yw _ (fun z1 hz1 => br_f (by decide) (br_f (by decide) (br_f (by decide) (br_f (by decide) (br_f (by decide) (br_f (by decide) (br_t rfl (?_)))))))))
            rcases hz1 with ⟨_, rfl⟩ | ⟨x, _⟩
            · exact br_f (by decide) ⟨rfl, same⟩
            · omega
    by_cases t3 : t < 3
    · refine br_f (nI_pos (by omega)) (br_f (nI_ge (b := 3) t3 (by omega)) (br_f (by decide) ⟨pk_in t 3 t3, ?_⟩))
      rw [ct]
      exact key _ (fun q => by omega) (fun _ => (h.1.1.2.1 t t3).1)
    · exact xk_isQ0 (Or.inr (nI_le (a := 3) (by omega) (by omega))) (br_t rfl (key 0 (fun _ => rfl) (fun q => absurd q t3)))
