section CLOSE
variable {st pl md cr : Nat → Int32}
theorem lk_close {s x c : Nat} (hs : s < 4) (hx : x = 1 ∨ x = 2) (hc6 : c ≤ 6) {kb kl kw kh kf kz ky : Nat → Int32} (K : ∀ i, i < c → ∃ w a y n, bk_K1 kb kl kw kh kf kz ky (s * 7 + i) (6 * s + i) w a y n) :
    ∀ (N : Nat) {B : Nat} {A : Nat → List bk_E} {g : Nat → Nat} {ob : Nat → Int32} {ol : Nat → Int32} {gc : Nat → Int32} {lc : Nat → Int32} {lr : Nat → Int32} {gv : Nat → Int32} {th : Nat → Int32} {hc : Nat → Int32} {hg : Nat → Int32} {hi : Nat → Int32} {ib : Nat → Int32} {il : Nat → Int32} {it : Nat → Int32} {qi : Nat → Int32} {qc : Nat → Int32} {ta : Nat → Int32} {wh : Nat → Int32} {od : Nat → Int32} {tg : Nat → Int32} {tr : Nat → Int32} {so : Nat → Int32} {bd : Nat → Int32} {fr : Int32} {en : Int32}, N ≤ c → bk_C B A g st ol th pl md cr lr gv ib il it qi qc ta wh od tg tr so bd fr en → bk_RH A hi hg hc → B + 16 * N ≤ 100000000 →
    ∃ d : bk_DT, bk_C (B + 16 * N) (zz_A d) (zz_g d) st (zz_ol d) (zz_th d) pl md cr (zz_lr d) (zz_gv d) (zz_ib d) (zz_il d) (zz_it d) (zz_qi d) (zz_qc d) (zz_ta d) (zz_wh d) (zz_od d) (zz_tg d) (zz_tr d) (zz_so d) (zz_bd d) (zz_fr d) (zz_en d) ∧ bk_RH (zz_A d) (zz_hi d) (zz_hg d) (zz_hc d) ∧ zz_th d = th ∧
      (∀ {lf cd bg pb pn xp fh fl fa mk cb mi mb ml pa kc co : Nat → Int32} {px : Int32} (post : SX → Prop) (f : Nat), N < f → post (px, st, lf, cd, bg, zz_gv d, zz_ob d, zz_ol d, pb, pn, xp, fh, fl, fa, mk, cb, mi, mb, ml, pa, kb, kl, kc, zz_th d, pl, md, cr, zz_hc d, zz_hg d, zz_hi d, zz_ib d, zz_il d, zz_it d, zz_qi d, zz_qc d, zz_gc d, zz_lc d, zz_lr d, co) → wX_doKept_10 post (nI s) (nI x) (nI c) f (nI (c - N)) px st lf cd bg gv ob ol pb pn xp fh fl fa mk cb mi mb ml pa kb kl kc th pl md cr hc hg hi ib il it qi qc gc lc lr co) ∧
      (∀ {lf cd bg kc pb pn yp ki le go mk cb mb ml la ps pd pt wo be : Nat → Int32} {ma wr : Int32}, ∃ wo' : Nat → Int32, ∀ (post : Int32 → SY → Prop) (f : Nat), N < f → post 1 (zz_fr d, zz_en d, ma, wr, st, lf, cd, zz_ta d, bg, upd kc s (nI (bk_nr (fun j => kf (6 * s + j)) (nI x) c)), zz_ob d, zz_ol d, pb, pn, yp, ki, le, go, mk, cb, mb, ml, la, ps, pd, pt, bk_c1 kw (6 * s) (fun j => kf (6 * s + j)) (nI x) (c), bk_c1 kh (6 * s) (fun j => kf (6 * s + j)) (nI x) (c), bk_c1 kf (6 * s) (fun j => kf (6 * s + j)) (nI x) (c), bk_c1 kz (6 * s) (fun j => kf (6 * s + j)) (nI x) (c), bk_cw 16 ky (6 * s) (fun j => kf (6 * s + j)) (nI x) (c), zz_th d, pl, md, cr, zz_gc d, zz_lc d, zz_lr d, zz_wh d, zz_od d, zz_tg d, zz_tr d, zz_so d, zz_bd d, wo', be) →
        wY_closes_29 post (nI s) (nI x) 1 (nI c) f (nI (bk_nr (fun j => kf (6 * s + j)) (nI x) (c - N))) (nI (6 * s + (c - N))) fr en ma wr st lf cd ta bg kc ob ol pb pn yp ki le go mk cb mb ml la ps pd pt (bk_c1 kw (6 * s) (fun j => kf (6 * s + j)) (nI x) (c - N)) (bk_c1 kh (6 * s) (fun j => kf (6 * s + j)) (nI x) (c - N)) (bk_c1 kf (6 * s) (fun j => kf (6 * s + j)) (nI x) (c - N)) (bk_c1 kz (6 * s) (fun j => kf (6 * s + j)) (nI x) (c - N)) (bk_cw 16 ky (6 * s) (fun j => kf (6 * s + j)) (nI x) (c - N)) th pl md cr gc lc lr wh od tg tr so bd wo be) := by
  have cs : (nI s).toNatClampNeg = s := nI_clamp (by omega)
  have e0 : 6 * nI s + nI c = nI (6 * s + c) := by rw [bn_mul2, nI_add]
  intro N
  induction N with
  | zero =>
    intro B A g ob ol gc lc lr gv th hc hg hi ib il it qi qc ta wh od tg tr so bd fr en _ h rh hB
    refine ⟨(A, g, ob, ol, gc, lc, lr, gv, th, hc, hg, hi, ib, il, it, qi, qc, ta, wh, od, tg, tr, so, bd, fr, en), h, rh, rfl, ?_, ?_⟩
    · intro lf cd bg pb pn xp fh fl fa mk cb mi mb ml pa kc co px post f hf hp
      obtain ⟨f, rfl⟩ : ∃ f', f = f' + 1 := ⟨f - 1, by omega⟩
      exact br_t (nI_le (by omega) (by omega)) hp
    · intro lf cd bg kc pb pn yp ki le go mk cb mb ml la ps pd pt wo be ma wr
      refine ⟨wo, fun post f hf hp => ?_⟩
      obtain ⟨f, rfl⟩ : ∃ f', f = f' + 1 := ⟨f - 1, by omega⟩
      refine br_t (by rw [e0]; exact nI_le (by omega) (by omega)) ⟨pk_in s 4 hs, ?_⟩
      rw [cs]
      exact nm_e hp
  | succ N ih =>
    intro B A g ob ol gc lc lr gv th hc hg hi ib il it qi qc ta wh od tg tr so bd fr en hN h rh hB
    obtain ⟨w, a, y, n, kk, hy, k0, k1, k2, k3, y0, y1, y2, y3, kbo⟩ := K (c - (N + 1)) (by omega)
    have ei : c - N = c - (N + 1) + 1 := by omega
    generalize hi0 : c - (N + 1) = i at *
    have hic : i < c := by omega
    have nle_ := bk_nr_le (fun j => kf (6 * s + j)) (nI x) i
    have hn16 : n ≤ 16 := by omega
    have hF : (fun j => kf (6 * s + j)) i = nI y := y2
    -- Y's rows at this place
    have q0 : bk_c1 kw (6 * s) (fun j => kf (6 * s + j)) (nI x) i (6 * s + i) = nI w := by rw [bk_c1_o kw _ _ _ _ _ (by omega)]; exact y0
    have q1 : bk_c1 kh (6 * s) (fun j => kf (6 * s + j)) (nI x) i (6 * s + i) = nI a := by rw [bk_c1_o kh _ _ _ _ _ (by omega)]; exact y1
    have q2 : bk_c1 kf (6 * s) (fun j => kf (6 * s + j)) (nI x) i (6 * s + i) = nI y := by rw [bk_c1_o kf _ _ _ _ _ (by omega)]; exact y2
    have q3 : bk_c1 kz (6 * s) (fun j => kf (6 * s + j)) (nI x) i (6 * s + i) = nI n := by rw [bk_c1_o kz _ _ _ _ _ (by omega)]; exact y3
    have q4 : ∀ k, k < n → bk_cw 16 ky (6 * s) (fun j => kf (6 * s + j)) (nI x) i ((6 * s + i) * 16 + k) = kb ((s * 7 + i) * 19 + 3 + k) := by
      intro k hk
      rw [bk_cw_o 16 ky _ _ _ _ _ k (by omega) (by omega), kbo k hk]
      exact congrArg ky (by omega)
    have cq : (nI (6 * s + i)).toNatClampNeg = 6 * s + i := nI_clamp (by omega)
    have iq : vp_in (nI (6 * s + i)) 24 := vp_in_nI (by omega) (by omega)
    have nle : ¬ 6 * nI s + nI c ≤ nI (6 * s + i) := by rw [e0]; exact nI_ge (by omega) (by omega)
    by_cases e : y = x
    · subst e
      obtain ⟨d1, h1, r1, t1, x1, yd1⟩ := lk_do (ob := ob) (gc := gc) (lc := lc) (s := s) (w := w) (a := a) (n := n) h rh (by omega) hs kk (fun j => kb ((s * 7 + i) * 19 + 3 + j))
      obtain ⟨d, h2, r2, t2, x2, yd2⟩ := ih (ob := zz_ob d1) (gc := zz_gc d1) (lc := zz_lc d1) (by omega) h1 r1 (by omega)
      refine ⟨d, by rw [show B + 16 + 16 * N = B + 16 * (N + 1) by omega] at h2; exact h2, r2, t2.trans t1, ?_, ?_⟩
      · intro lf cd bg pb pn xp fh fl fa mk cb mi mb ml pa kc co px post f hf hp
        obtain ⟨f, rfl⟩ : ∃ f', f = f' + 1 := ⟨f - 1, by omega⟩
        refine x1 post f i (nI y) (nI c) (by omega) k0 k1 k2 k3 (fun _ _ => rfl) (nI_ge hic (by omega)) ?_
        rw [← ei]
        exact x2 post f (by omega) hp
      · intro lf cd bg kc pb pn yp ki le go mk cb mb ml la ps pd pt wo be ma wr
        obtain ⟨wo', z⟩ := yd2 (lf := lf) (cd := cd) (bg := bg) (kc := kc) (pb := pb) (pn := pn) (yp := yp) (ki := ki) (le := le) (go := go) (mk := mk) (cb := cb) (mb := mb) (ml := ml) (la := la) (ps := ps) (pd := pd) (pt := pt) (wo := bk_mv wo 3 (fun k => bk_cw 16 ky (6 * s) (fun j => kf (6 * s + j)) (nI y) i ((6 * s + i) * 16 + k)) n) (be := be) (ma := ma) (wr := wr)
        refine ⟨wo', fun post f hf hp => ?_⟩
        obtain ⟨f, rfl⟩ : ∃ f', f = f' + 1 := ⟨f - 1, by omega⟩
        have zz := z post f (by omega) hp
        rw [ei, bk_nr_eq (fun j => kf (6 * s + j)) (nI y) (n := i) hF, bk_c1_t kw (6 * s) (fun j => kf (6 * s + j)) (nI y) i hF, bk_c1_t kh (6 * s) (fun j => kf (6 * s + j)) (nI y) i hF, bk_c1_t kf (6 * s) (fun j => kf (6 * s + j)) (nI y) i hF, bk_c1_t kz (6 * s) (fun j => kf (6 * s + j)) (nI y) i hF, bk_cw_t 16 ky (6 * s) (fun j => kf (6 * s + j)) (nI y) i hF] at zz
        refine br_f nle ⟨iq, ?_⟩
        rw [cq, q2]
        refine br_t rfl ⟨n + 1, yk_close74 (kz := bk_c1 kz (6 * s) (fun j => kf (6 * s + j)) (nI y) i) (ky := bk_cw 16 ky (6 * s) (fun j => kf (6 * s + j)) (nI y) i) (by omega) hn16 q3 (fun g => ⟨iq, ?_⟩) (n + 1) 0 (by omega) (by omega)⟩
        rw [cq, q3, q0, q1]
        refine br_t (nI_le (Nat.le_refl _) (by omega)) (br_f (by decide) ⟨iq, iq, iq, ?_⟩)
        refine yd1 _ (fun j hj => ?_) (nm_r (nI_1 (6 * s + i)) zz)
        rw [bk_mv_i _ 3 _ n j hj]
        exact q4 j hj
    · obtain ⟨d, h2, r2, t2, x2, yd2⟩ := ih (ob := ob) (gc := gc) (lc := lc) (by omega) h rh (by omega)
      have hF' : (fun j => kf (6 * s + j)) i ≠ nI x := by
        rw [hF]
        intro z
        exact e ((nI_eq (by omega) (by omega)).mp z)
      refine ⟨d, dk_mono h2 (by omega), r2, t2, ?_, ?_⟩
      · intro lf cd bg pb pn xp fh fl fa mk cb mi mb ml pa kc co px post f hf hp
        obtain ⟨f, rfl⟩ : ∃ f', f = f' + 1 := ⟨f - 1, by omega⟩
        have e1 : nI s * 7 + nI i = nI (s * 7 + i) := by rw [bn_mul, nI_add]
        have e2 : nI (s * 7 + i) * 19 = nI ((s * 7 + i) * 19) := bn_mul _ 19
        have e3 : nI ((s * 7 + i) * 19) + 2 = nI ((s * 7 + i) * 19 + 2) := bn_add _ 2
        have c2 : (nI ((s * 7 + i) * 19 + 2)).toNatClampNeg = (s * 7 + i) * 19 + 2 := nI_clamp (by omega)
        refine br_f (nI_ge hic (by omega)) (nm_r e1 (nm_r e2 ?_))
        rw [e3, c2, k2]
        refine ⟨vp_in_nI (by omega) (by omega), br_f (fun z => e ((nI_eq (by omega) (by omega)).mp z)) (nm_r (nI_1 i) ?_)⟩
        rw [← ei]
        exact x2 post f (by omega) hp
      · intro lf cd bg kc pb pn yp ki le go mk cb mb ml la ps pd pt wo be ma wr
        obtain ⟨wo', z⟩ := yd2 (lf := lf) (cd := cd) (bg := bg) (kc := kc) (pb := pb) (pn := pn) (yp := yp) (ki := ki) (le := le) (go := go) (mk := mk) (cb := cb) (mb := mb) (ml := ml) (la := la) (ps := ps) (pd := pd) (pt := pt) (wo := wo) (be := be) (ma := ma) (wr := wr)
        refine ⟨wo', fun post f hf hp => ?_⟩
        obtain ⟨f, rfl⟩ : ∃ f', f = f' + 1 := ⟨f - 1, by omega⟩
        have zz := z post f (by omega) hp
        rw [ei, bk_nr_up (fun j => kf (6 * s + j)) (nI x) (n := i) hF', bk_c1_f kw (6 * s) (fun j => kf (6 * s + j)) (nI x) i hF', bk_c1_f kh (6 * s) (fun j => kf (6 * s + j)) (nI x) i hF', bk_c1_f kf (6 * s) (fun j => kf (6 * s + j)) (nI x) i hF', bk_c1_f kz (6 * s) (fun j => kf (6 * s + j)) (nI x) i hF', bk_cw_f 16 ky (6 * s) (fun j => kf (6 * s + j)) (nI x) i hF'] at zz
        have e3 : 6 * nI s + nI (bk_nr (fun j => kf (6 * s + j)) (nI x) i) = nI (6 * s + bk_nr (fun j => kf (6 * s + j)) (nI x) i) := by rw [bn_mul2, nI_add]
        refine br_f nle ⟨iq, ?_⟩
        rw [cq, q2, e3]
        refine br_f (fun z => e ((nI_eq (by omega) (by omega)).mp z)) (yk_move (by omega) (by omega) (nm_r (nI_1 _) (nm_r (nI_1 (6 * s + i)) zz)))
end CLOSE
