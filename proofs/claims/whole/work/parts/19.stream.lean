section STREAM
variable {st pl md cr : Nat → Int32}
/-- an item sent to stream t goes to ring r, if it can -/
theorem lk_ring1 {B : Nat} {A : Nat → List bk_E} {g : Nat → Nat} {ob : Nat → Int32} {ol : Nat → Int32} {gc : Nat → Int32} {lc : Nat → Int32} {lr : Nat → Int32} {gv : Nat → Int32} {th : Nat → Int32} {hc : Nat → Int32} {hg : Nat → Int32} {hi : Nat → Int32} {ib : Nat → Int32} {il : Nat → Int32} {it : Nat → Int32} {qi : Nat → Int32} {qc : Nat → Int32} {ta : Nat → Int32} {wh : Nat → Int32} {od : Nat → Int32} {tg : Nat → Int32} {tr : Nat → Int32} {so : Nat → Int32} {bd : Nat → Int32} {fr : Int32} {en : Int32} (h : bk_C B A g st ol th pl md cr lr gv ib il it qi qc ta wh od tg tr so bd fr en) (rh : bk_RH A hi hg hc) (hB : B + 1 ≤ 100000000) {t n r : Nat} (ht : 3 ≤ t) (ht6 : t < 6) (hn : n ≤ 16) (hr : r < 16) (w : Nat → Int32) :
    ∃ d : bk_DT, bk_C (B + 1) (zz_A d) (zz_g d) st (zz_ol d) (zz_th d) pl md cr (zz_lr d) (zz_gv d) (zz_ib d) (zz_il d) (zz_it d) (zz_qi d) (zz_qc d) (zz_ta d) (zz_wh d) (zz_od d) (zz_tg d) (zz_tr d) (zz_so d) (zz_bd d) (zz_fr d) (zz_en d) ∧ bk_RH (zz_A d) (zz_hi d) (zz_hg d) (zz_hc d) ∧ zz_th d = th ∧
      (∀ {lf cd bg pb pn xp fh fl fa mk cb mi mb ml pa kb kl kc co : Nat → Int32} {px : Int32} (post : SX → Prop) (p f : Nat), p < 28 → (∀ j, j < n → kb (p * 19 + 3 + j) = w j) → wX_sendToStream_27 post (nI (p * 19)) (nI t) (nI n) f (nI (r + 1)) px st lf cd bg (zz_gv d) (zz_ob d) (zz_ol d) pb pn xp fh fl fa mk cb mi mb ml pa kb kl kc (zz_th d) pl md cr (zz_hc d) (zz_hg d) (zz_hi d) (zz_ib d) (zz_il d) (zz_it d) (zz_qi d) (zz_qc d) (zz_gc d) (zz_lc d) (zz_lr d) co → wX_sendToStream_27 post (nI (p * 19)) (nI t) (nI n) (f + 1) (nI r) px st lf cd bg gv ob ol pb pn xp fh fl fa mk cb mi mb ml pa kb kl kc th pl md cr hc hg hi ib il it qi qc gc lc lr co) ∧
      (∀ {lf cd bg kc pb pn yp ki le go mk cb mb ml la ps pd pt kw kh kf kz ky wo be : Nat → Int32} {ma wr : Int32} (post : SY → Prop) (f : Nat), (∀ j, j < n → wo (3 + j) = w j) → wY_send_66 post (nI t) (nI n) f (nI (r + 1)) (zz_fr d) (zz_en d) ma wr st lf cd (zz_ta d) bg kc (zz_ob d) (zz_ol d) pb pn yp ki le go mk cb mb ml la ps pd pt kw kh kf kz ky (zz_th d) pl md cr (zz_gc d) (zz_lc d) (zz_lr d) (zz_wh d) (zz_od d) (zz_tg d) (zz_tr d) (zz_so d) (zz_bd d) wo be → wY_send_66 post (nI t) (nI n) (f + 1) (nI r) fr en ma wr st lf cd ta bg kc ob ol pb pn yp ki le go mk cb mb ml la ps pd pt kw kh kf kz ky th pl md cr gc lc lr wh od tg tr so bd wo be) := by
  by_cases can : bk_Can A st ol th pl md cr r t n
  rotate_left
  · refine ⟨(A, g, ob, ol, gc, lc, lr, gv, th, hc, hg, hi, ib, il, it, qi, qc, ta, wh, od, tg, tr, so, bd, fr, en), dk_mono h (by omega), rh, rfl, ?_, ?_⟩
    · intro lf cd bg pb pn xp fh fl fa mk cb mi mb ml pa kb kl kc co px post p f hp28 k3 hp
      refine br_f (nI_ge (b := 16) hr (by omega)) (xk_canTake h rh hr ht6 (by omega) (fun c => absurd c can) (fun _ => ?_))
      exact br_t rfl (nm_r (nI_1 r) hp)
    · intro lf cd bg kc pb pn yp ki le go mk cb mb ml la ps pd pt kw kh kf kz ky wo be ma wr post f k3 hp
      refine br_f (nI_ge (b := 16) hr (by omega)) (yk_can h hr ht6 (by omega) (fun c => absurd c can) (fun _ => ?_))
      exact br_t rfl (nm_r (nI_1 r) hp)
  · obtain ⟨y, hy, hw, hyl⟩ := bk_freeYL h
    obtain ⟨k1, k2, k3, ⟨a, k4, k5⟩, k6⟩ := id can
    have sess := h.2.2.2.1 (r / 4) (by omega)
    have hG : g (r / 4) < 2 ^ 31 := by have := sess.2.2.1; omega
    have g1 := h.2.2.1 r hr
    have hl5 := (dk_len h).2 r hr
    rcases g1 with ⟨z, _⟩ | ⟨_, t', m, c, j1, j2, j3, j4, j5, j6, j7, j8, j9⟩
    · rw [k1] at z; exact absurd z (by decide)
    have hY : ∀ z, z < 112 → z ≠ y → upd tr y 0 z = tr z ∧ upd so y (nI n) z = so z ∧ ∀ j, j < 16 → bk_mv bd (16 * y) w n (16 * z + j) = bd (16 * z + j) :=
      fun z hz ne => ⟨pk_un ne, pk_un ne, fun j hj => bk_mv_o bd (16 * y) w n _ (by omega)⟩
    have wfY : bk_wf (bk_hd ob (r / 4) a n r (g (r / 4))) (r / 4) (a + 5) (fun k => bk_mv bd (16 * y) w n (16 * y + k)) n = bk_wf (bk_hd ob (r / 4) a n r (g (r / 4))) (r / 4) (a + 5) w n :=
      bk_wf_congr _ _ _ _ _ n (fun j hj => bk_mv_i bd (16 * y) w n j hj)
    by_cases m0 : m = 0
    · subst m0
      have q := dk_giveS0 (a := a + 5 + n) (t := t) (tr' := upd tr y 0) (so' := upd so y (nI n)) (bd' := bk_mv bd (16 * y) w n) h (by omega) hr (by omega) hw hY
      refine ⟨(A, bk_up g (r / 4), bk_wf (bk_hd ob (r / 4) a n r (g (r / 4))) (r / 4) (a + 5) w n, upd ol (r / 4) (nI (a + 5 + n)), upd gc t (gc t + 1), lc, upd lr t (nI r), upd gv (r / 4) (nI (g (r / 4) + 1)), th, hc, hg, hi, ib, il, it, qi, qc, upd ta (r / 4) (nI ((g (r / 4) % 256 + 1) % 256)), upd wh y (-1), upd od y (en + 1), upd tg y (ta (r / 4)), upd tr y 0, upd so y (nI n), bk_mv bd (16 * y) w n, fr, en + 1), q, rh, rfl, ?_, ?_⟩
      · intro lf cd bg pb pn xp fh fl fa mk cb mi mb ml pa kb kl kc co px post p f hp28 kw' hp
        have wfX := bk_wf_congr (bk_hd ob (r / 4) a n r (g (r / 4))) (r / 4) (a + 5) (fun k => kb (p * 19 + 3 + k)) w n kw'
        have e3 : nI (p * 19) + 3 = nI (p * 19 + 3) := bn_add _ 3
        have fe : bk_fre il (-1) = il := if_pos rfl
        refine br_f (nI_ge (b := 16) hr (by omega)) (xk_canTake h rh hr ht6 (by omega) (fun _ => ?_) (fun c => absurd can c))
        refine br_f (by decide) ?_
        rw [e3]
        refine xk_g0_keptBytes (a := a) (G := g (r / 4)) (t := t) hr hn k4 k5 (by omega) sess.1 hG j3 k2 ht6 (Or.inl rfl) ?_
        rw [wfX, fe]
        exact nm_r (nI_1 r) hp
      · intro lf cd bg kc pb pn yp ki le go mk cb mb ml la ps pd pt kw kh kf kz ky wo be ma wr post f kw' hp
        have m := bk_mv_congr bd (16 * y) (fun k => wo (3 + k)) w n kw'
        refine br_f (nI_ge (b := 16) hr (by omega)) (yk_can h hr ht6 (by omega) (fun _ => ?_) (fun c => absurd can c))
        refine br_f (by decide) (yk_make hy hn hw hyl ?_)
        rw [m]
        refine yk_give (a := a) (G := g (r / 4)) (t := t) hr hn k4 k5 hy pk_us sess.2.1 k2 ht6 (-1) (Or.inl ⟨j3, rfl⟩) ?_
        rw [wfY]
        exact nm_r (nI_1 r) hp
    · have k6' : ∃ c', cr r = nI c' ∧ c' ≤ 5 ∧ (A (3 + r)).length < c' := by
        rcases k6 with z | z
        · rw [j3] at z; exact absurd z (nI_ne0 (by omega) (by omega))
        · exact z
      obtain ⟨c', c1, c2, c3⟩ := k6'
      have q := dk_giveS1 (a := a + 5 + n) (t := t) (y := y) (tr' := upd tr y 0) (so' := upd so y (nI n)) (bd' := bk_mv bd (16 * y) w n) h rh (by omega) ht ht6 hr k1 k2 j3 j4 m0 c1 c2 c3 (by omega) hy hw hY
      refine ⟨(bk_set A (3 + r) (A (3 + r) ++ [(-1, y, g (r / 4))]), bk_up g (r / 4), bk_wf (bk_hd ob (r / 4) a n r (g (r / 4))) (r / 4) (a + 5) w n, upd ol (r / 4) (nI (a + 5 + n)), upd gc t (gc t + 1), lc, upd lr t (nI r), upd gv (r / 4) (nI (g (r / 4) + 1)), th, upd hc r (nI ((A (3 + r)).length + 1)), upd hg (r * 5 + (A (3 + r)).length) (nI (g (r / 4))), upd hi (r * 5 + (A (3 + r)).length) (-1), ib, il, it, qi, qc, upd ta (r / 4) (nI ((g (r / 4) % 256 + 1) % 256)), upd wh y (nI (3 + r)), upd od y (en + 1), upd tg y (ta (r / 4)), upd tr y 0, upd so y (nI n), bk_mv bd (16 * y) w n, fr, en + 1), q.1, q.2, rfl, ?_, ?_⟩
      · intro lf cd bg pb pn xp fh fl fa mk cb mi mb ml pa kb kl kc co px post p f hp28 kw' hp
        have wfX := bk_wf_congr (bk_hd ob (r / 4) a n r (g (r / 4))) (r / 4) (a + 5) (fun k => kb (p * 19 + 3 + k)) w n kw'
        have e3 : nI (p * 19) + 3 = nI (p * 19 + 3) := bn_add _ 3
        refine br_f (nI_ge (b := 16) hr (by omega)) (xk_canTake h rh hr ht6 (by omega) (fun _ => ?_) (fun c => absurd can c))
        refine br_f (by decide) ?_
        rw [e3]
        refine xk_g1_keptBytes (a := a) (G := g (r / 4)) (t := t) (m := m) (c := (A (3 + r)).length) hr hn k4 k5 (by omega) sess.1 hG j3 j4 m0 k2 ht6 (rh r hr).1 (by omega) ?_
        rw [wfX]
        exact nm_r (nI_1 r) hp
      · intro lf cd bg kc pb pn yp ki le go mk cb mb ml la ps pd pt kw kh kf kz ky wo be ma wr post f kw' hp
        have mm := bk_mv_congr bd (16 * y) (fun k => wo (3 + k)) w n kw'
        refine br_f (nI_ge (b := 16) hr (by omega)) (yk_can h hr ht6 (by omega) (fun _ => ?_) (fun c => absurd can c))
        refine br_f (by decide) (yk_make hy hn hw hyl ?_)
        rw [mm]
        refine yk_give (a := a) (G := g (r / 4)) (t := t) hr hn k4 k5 hy pk_us sess.2.1 k2 ht6 (nI (3 + r)) (Or.inr ⟨by rw [j3]; exact nI_ne0 (by omega) (by omega), rfl⟩) ?_
        rw [wfY]
        exact nm_r (nI_1 r) hp
theorem lk_streamLoop {t n : Nat} (ht : 3 ≤ t) (ht6 : t < 6) (hn : n ≤ 16) (w : Nat → Int32) : ∀ (N : Nat) {B : Nat} {A : Nat → List bk_E} {g : Nat → Nat} {ob : Nat → Int32} {ol : Nat → Int32} {gc : Nat → Int32} {lc : Nat → Int32} {lr : Nat → Int32} {gv : Nat → Int32} {th : Nat → Int32} {hc : Nat → Int32} {hg : Nat → Int32} {hi : Nat → Int32} {ib : Nat → Int32} {il : Nat → Int32} {it : Nat → Int32} {qi : Nat → Int32} {qc : Nat → Int32} {ta : Nat → Int32} {wh : Nat → Int32} {od : Nat → Int32} {tg : Nat → Int32} {tr : Nat → Int32} {so : Nat → Int32} {bd : Nat → Int32} {fr : Int32} {en : Int32}, N ≤ 16 → bk_C B A g st ol th pl md cr lr gv ib il it qi qc ta wh od tg tr so bd fr en → bk_RH A hi hg hc → B + N ≤ 100000000 →
    ∃ d : bk_DT, bk_C (B + N) (zz_A d) (zz_g d) st (zz_ol d) (zz_th d) pl md cr (zz_lr d) (zz_gv d) (zz_ib d) (zz_il d) (zz_it d) (zz_qi d) (zz_qc d) (zz_ta d) (zz_wh d) (zz_od d) (zz_tg d) (zz_tr d) (zz_so d) (zz_bd d) (zz_fr d) (zz_en d) ∧ bk_RH (zz_A d) (zz_hi d) (zz_hg d) (zz_hc d) ∧ zz_th d = th ∧
      (∀ {lf cd bg pb pn xp fh fl fa mk cb mi mb ml pa kb kl kc co : Nat → Int32} {px : Int32} (post : SX → Prop) (p f : Nat), p < 28 → N < f → (∀ j, j < n → kb (p * 19 + 3 + j) = w j) → post (px, st, lf, cd, bg, zz_gv d, zz_ob d, zz_ol d, pb, pn, xp, fh, fl, fa, mk, cb, mi, mb, ml, pa, kb, kl, kc, zz_th d, pl, md, cr, zz_hc d, zz_hg d, zz_hi d, zz_ib d, zz_il d, zz_it d, zz_qi d, zz_qc d, zz_gc d, zz_lc d, zz_lr d, co) → wX_sendToStream_27 post (nI (p * 19)) (nI t) (nI n) f (nI (16 - N)) px st lf cd bg gv ob ol pb pn xp fh fl fa mk cb mi mb ml pa kb kl kc th pl md cr hc hg hi ib il it qi qc gc lc lr co) ∧
      (∀ {lf cd bg kc pb pn yp ki le go mk cb mb ml la ps pd pt kw kh kf kz ky wo be : Nat → Int32} {ma wr : Int32} (post : SY → Prop) (f : Nat), N < f → (∀ j, j < n → wo (3 + j) = w j) → post (zz_fr d, zz_en d, ma, wr, st, lf, cd, zz_ta d, bg, kc, zz_ob d, zz_ol d, pb, pn, yp, ki, le, go, mk, cb, mb, ml, la, ps, pd, pt, kw, kh, kf, kz, ky, zz_th d, pl, md, cr, zz_gc d, zz_lc d, zz_lr d, zz_wh d, zz_od d, zz_tg d, zz_tr d, zz_so d, zz_bd d, wo, be) → wY_send_66 post (nI t) (nI n) f (nI (16 - N)) fr en ma wr st lf cd ta bg kc ob ol pb pn yp ki le go mk cb mb ml la ps pd pt kw kh kf kz ky th pl md cr gc lc lr wh od tg tr so bd wo be) := by
  intro N
  induction N with
  | zero =>
    intro B A g ob ol gc lc lr gv th hc hg hi ib il it qi qc ta wh od tg tr so bd fr en _ h rh hB
    refine ⟨(A, g, ob, ol, gc, lc, lr, gv, th, hc, hg, hi, ib, il, it, qi, qc, ta, wh, od, tg, tr, so, bd, fr, en), h, rh, rfl, ?_, ?_⟩
    · intro lf cd bg pb pn xp fh fl fa mk cb mi mb ml pa kb kl kc co px post p f hp28 hf kw' hp
      obtain ⟨f, rfl⟩ : ∃ f', f = f' + 1 := ⟨f - 1, by omega⟩
      exact br_t (by decide) hp
    · intro lf cd bg kc pb pn yp ki le go mk cb mb ml la ps pd pt kw kh kf kz ky wo be ma wr post f hf kw' hp
      obtain ⟨f, rfl⟩ : ∃ f', f = f' + 1 := ⟨f - 1, by omega⟩
      exact br_t (by decide) hp
  | succ N ih =>
    intro B A g ob ol gc lc lr gv th hc hg hi ib il it qi qc ta wh od tg tr so bd fr en hN h rh hB
    obtain ⟨d1, h1, r1, t1, x1, y1⟩ := lk_ring1 (ob := ob) (gc := gc) (lc := lc) (r := 16 - (N + 1)) h rh (by omega) ht ht6 hn (by omega) w
    obtain ⟨d, h2, r2, t2, x2, y2⟩ := ih (ob := zz_ob d1) (gc := zz_gc d1) (lc := zz_lc d1) (by omega) h1 r1 (by omega)
    have e : 16 - (N + 1) + 1 = 16 - N := by omega
    refine ⟨d, by rw [Nat.add_assoc, Nat.add_comm 1 N] at h2; exact h2, r2, t2.trans t1, ?_, ?_⟩
    · intro lf cd bg pb pn xp fh fl fa mk cb mi mb ml pa kb kl kc co px post p f hp28 hf kw' hp
      obtain ⟨f, rfl⟩ : ∃ f', f = f' + 1 := ⟨f - 1, by omega⟩
      refine x1 post p f hp28 kw' ?_
      rw [e]
      exact x2 post p f hp28 (by omega) kw' hp
    · intro lf cd bg kc pb pn yp ki le go mk cb mb ml la ps pd pt kw kh kf kz ky wo be ma wr post f hf kw' hp
      obtain ⟨f, rfl⟩ : ∃ f', f = f' + 1 := ⟨f - 1, by omega⟩
      refine y1 post f kw' ?_
      rw [e]
      exact y2 post f (by omega) kw' hp
/-- what a command 3, 4 or 5 does -/
theorem lk_do {B : Nat} {A : Nat → List bk_E} {g : Nat → Nat} {ob : Nat → Int32} {ol : Nat → Int32} {gc : Nat → Int32} {lc : Nat → Int32} {lr : Nat → Int32} {gv : Nat → Int32} {th : Nat → Int32} {hc : Nat → Int32} {hg : Nat → Int32} {hi : Nat → Int32} {ib : Nat → Int32} {il : Nat → Int32} {it : Nat → Int32} {qi : Nat → Int32} {qc : Nat → Int32} {ta : Nat → Int32} {wh : Nat → Int32} {od : Nat → Int32} {tg : Nat → Int32} {tr : Nat → Int32} {so : Nat → Int32} {bd : Nat → Int32} {fr : Int32} {en : Int32} (h : bk_C B A g st ol th pl md cr lr gv ib il it qi qc ta wh od tg tr so bd fr en) (rh : bk_RH A hi hg hc) (hB : B + 16 ≤ 100000000) {s w a n : Nat} (hs : s < 4) (hw : (w = 3 ∧ a < 6 ∧ 1 ≤ n ∧ n ≤ 16) ∨ ((w = 4 ∨ w = 5) ∧ a < 256 ∧ n = 0)) (bo : Nat → Int32) :
    ∃ d : bk_DT, bk_C (B + 16) (zz_A d) (zz_g d) st (zz_ol d) (zz_th d) pl md cr (zz_lr d) (zz_gv d) (zz_ib d) (zz_il d) (zz_it d) (zz_qi d) (zz_qc d) (zz_ta d) (zz_wh d) (zz_od d) (zz_tg d) (zz_tr d) (zz_so d) (zz_bd d) (zz_fr d) (zz_en d) ∧ bk_RH (zz_A d) (zz_hi d) (zz_hg d) (zz_hc d) ∧ zz_th d = th ∧
      (∀ {lf cd bg pb pn xp fh fl fa mk cb mi mb ml pa kb kl kc co : Nat → Int32} {px : Int32} (post : SX → Prop) (f i : Nat) (x c : Int32), i < 7 → kb ((s * 7 + i) * 19) = nI w → kb ((s * 7 + i) * 19 + 1) = nI a → kb ((s * 7 + i) * 19 + 2) = x → kl (s * 7 + i) = nI (n + 3) → (∀ j, j < n → kb ((s * 7 + i) * 19 + 3 + j) = bo j) → ¬ c ≤ nI i →
        wX_doKept_10 post (nI s) x c f (nI (i + 1)) px st lf cd bg (zz_gv d) (zz_ob d) (zz_ol d) pb pn xp fh fl fa mk cb mi mb ml pa kb kl kc (zz_th d) pl md cr (zz_hc d) (zz_hg d) (zz_hi d) (zz_ib d) (zz_il d) (zz_it d) (zz_qi d) (zz_qc d) (zz_gc d) (zz_lc d) (zz_lr d) co → wX_doKept_10 post (nI s) x c (f + 1) (nI i) px st lf cd bg gv ob ol pb pn xp fh fl fa mk cb mi mb ml pa kb kl kc th pl md cr hc hg hi ib il it qi qc gc lc lr co) ∧
      (∀ {lf cd bg kc pb pn yp ki le go mk cb mb ml la ps pd pt kw kh kf kz ky wo be : Nat → Int32} {ma wr : Int32} (post : Int32 → SY → Prop), (∀ j, j < n → wo (3 + j) = bo j) → post 1 (zz_fr d, zz_en d, ma, wr, st, lf, cd, zz_ta d, bg, kc, zz_ob d, zz_ol d, pb, pn, yp, ki, le, go, mk, cb, mb, ml, la, ps, pd, pt, kw, kh, kf, kz, ky, zz_th d, pl, md, cr, zz_gc d, zz_lc d, zz_lr d, zz_wh d, zz_od d, zz_tg d, zz_tr d, zz_so d, zz_bd d, wo, be) → wpY_does post (fr, en, ma, wr, st, lf, cd, ta, bg, kc, ob, ol, pb, pn, yp, ki, le, go, mk, cb, mb, ml, la, ps, pd, pt, kw, kh, kf, kz, ky, th, pl, md, cr, gc, lc, lr, wh, od, tg, tr, so, bd, wo, be) (nI s) (nI w) (nI a) 0 (nI n)) := by
  -- X's road to what is done
  have road : ∀ {lf cd bg pb pn xp fh fl fa mk cb mi mb ml pa kb kl kc co : Nat → Int32} {px : Int32} (post : SX → Prop) (f i : Nat) (x c : Int32), i < 7 → kb ((s * 7 + i) * 19) = nI w → kb ((s * 7 + i) * 19 + 1) = nI a → kb ((s * 7 + i) * 19 + 2) = x → ¬ c ≤ nI i →
      (w = 3 → 3 ≤ a → wpX_sendToStream (fun u => match u with | (px, st, lf, cd, bg, gv, ob, ol, pb, pn, xp, fh, fl, fa, mk, cb, mi, mb, ml, pa, kb, kl, kc, th, pl, md, cr, hc, hg, hi, ib, il, it, qi, qc, gc, lc, lr, co) => ∀ y, y = nI i + 1 → wX_doKept_10 post (nI s) x c f y px st lf cd bg gv ob ol pb pn xp fh fl fa mk cb mi mb ml pa kb kl kc th pl md cr hc hg hi ib il it qi qc gc lc lr co) (px, st, lf, cd, bg, gv, ob, ol, pb, pn, xp, fh, fl, fa, mk, cb, mi, mb, ml, pa, kb, kl, kc, th, pl, md, cr, hc, hg, hi, ib, il, it, qi, qc, gc, lc, lr, co) (nI (s * 7 + i))) →
      (w = 3 → a < 3 → wpX_sendToQueue (fun u => match u with | (px, st, lf, cd, bg, gv, ob, ol, pb, pn, xp, fh, fl, fa, mk, cb, mi, mb, ml, pa, kb, kl, kc, th, pl, md, cr, hc, hg, hi, ib, il, it, qi, qc, gc, lc, lr, co) => ∀ y, y = nI i + 1 → wX_doKept_10 post (nI s) x c f y px st lf cd bg gv ob ol pb pn xp fh fl fa mk cb mi mb ml pa kb kl kc th pl md cr hc hg hi ib il it qi qc gc lc lr co) (px, st, lf, cd, bg, gv, ob, ol, pb, pn, xp, fh, fl, fa, mk, cb, mi, mb, ml, pa, kb, kl, kc, th, pl, md, cr, hc, hg, hi, ib, il, it, qi, qc, gc, lc, lr, co) (nI (s * 7 + i))) →
      (w = 5 → wpX_settle (fun u => match u with | (px, st, lf, cd, bg, gv, ob, ol, pb, pn, xp, fh, fl, fa, mk, cb, mi, mb, ml, pa, kb, kl, kc, th, pl, md, cr, hc, hg, hi, ib, il, it, qi, qc, gc, lc, lr, co) => ∀ y, y = nI i + 1 → wX_doKept_10 post (nI s) x c f y px st lf cd bg gv ob ol pb pn xp fh fl fa mk cb mi mb ml pa kb kl kc th pl md cr hc hg hi ib il it qi qc gc lc lr co) (px, st, lf, cd, bg, gv, ob, ol, pb, pn, xp, fh, fl, fa, mk, cb, mi, mb, ml, pa, kb, kl, kc, th, pl, md, cr, hc, hg, hi, ib, il, it, qi, qc, gc, lc, lr, co) (nI s) (nI a) 1) →
      (w = 4 → wpX_settle (fun u => match u with | (px, st, lf, cd, bg, gv, ob, ol, pb, pn, xp, fh, fl, fa, mk, cb, mi, mb, ml, pa, kb, kl, kc, th, pl, md, cr, hc, hg, hi, ib, il, it, qi, qc, gc, lc, lr, co) => ∀ y, y = nI i + 1 → wX_doKept_10 post (nI s) x c f y px st lf cd bg gv ob ol pb pn xp fh fl fa mk cb mi mb ml pa kb kl kc th pl md cr hc hg hi ib il it qi qc gc lc lr co) (px, st, lf, cd, bg, gv, ob, ol, pb, pn, xp, fh, fl, fa, mk, cb, mi, mb, ml, pa, kb, kl, kc, th, pl, md, cr, hc, hg, hi, ib, il, it, qi, qc, gc, lc, lr, co) (nI s) (nI a) 0) →
      wX_doKept_10 post (nI s) x c (f + 1) (nI i) px st lf cd bg gv ob ol pb pn xp fh fl fa mk cb mi mb ml pa kb kl kc th pl md cr hc hg hi ib il it qi qc gc lc lr co := by
    intro lf cd bg pb pn xp fh fl fa mk cb mi mb ml pa kb kl kc co px post f i x c hi7 k0 k1 k2 hc' g1 g2 g3 g4
    have e1 : nI s * 7 + nI i = nI (s * 7 + i) := by rw [bn_mul, nI_add]
    have e2 : nI (s * 7 + i) * 19 = nI ((s * 7 + i) * 19) := bn_mul _ 19
    have e3 : nI ((s * 7 + i) * 19) + 2 = nI ((s * 7 + i) * 19 + 2) := bn_add _ 2
    have c0 : (nI ((s * 7 + i) * 19)).toNatClampNeg = (s * 7 + i) * 19 := nI_clamp (by omega)
    have c1 : (nI ((s * 7 + i) * 19 + 1)).toNatClampNeg = (s * 7 + i) * 19 + 1 := nI_clamp (by omega)
    have c2 : (nI ((s * 7 + i) * 19 + 2)).toNatClampNeg = (s * 7 + i) * 19 + 2 := nI_clamp (by omega)
    have i0 : vp_in (nI ((s * 7 + i) * 19)) 532 := vp_in_nI (by omega) (by omega)
    have i1 : vp_in (nI ((s * 7 + i) * 19 + 1)) 532 := vp_in_nI (by omega) (by omega)
    refine br_f hc' (nm_r e1 (nm_r e2 ?_))
    rw [e3, c2, k2, c0, k0, nI_1 ((s * 7 + i) * 19), c1, k1]
    refine ⟨vp_in_nI (by omega) (by omega), br_t rfl ⟨i0, ?_⟩⟩
    rcases hw with ⟨rfl, ha, _⟩ | ⟨rfl | rfl, ha, _⟩
    · refine br_t rfl ⟨i1, br_f (nI_pos (by omega)) ?_⟩
      exact pk_le 3 a (fun z => br_t rfl (g1 rfl z)) (fun z => br_f (by decide) (g2 rfl z))
    · exact br_f (by decide) ⟨i1, i0, br_f (by decide) (g4 rfl)⟩
    · exact br_f (by decide) ⟨i1, i0, br_t rfl (g3 rfl)⟩
  rcases hw with ⟨rfl, ha, hn1, hn⟩ | ⟨hw, ha, rfl⟩
  · by_cases a3 : a < 3
    · obtain ⟨d, h1, r1, t1, x1, y1⟩ := lk_sendQ (ob := ob) (gc := gc) (lc := lc) h rh (by omega) a3 hn1 hn bo
      refine ⟨d, dk_mono h1 (by omega), r1, t1, ?_, ?_⟩
      · intro lf cd bg pb pn xp fh fl fa mk cb mi mb ml pa kb kl kc co px post f i x c hi7 k0 k1 k2 k3 k4 hc' hp
        refine road post f i x c hi7 k0 k1 k2 hc' (fun _ z => by omega) (fun _ _ => ?_) (fun z => by omega) (fun z => by omega)
        exact x1 _ (s * 7 + i) (by omega) k1 k3 k4 (nm_r (nI_1 i) hp)
      · intro lf cd bg kc pb pn yp ki le go mk cb mb ml la ps pd pt kw kh kf kz ky wo be ma wr post kw' hp
        exact br_t rfl (br_t rfl (y1 _ kw' hp))
    · obtain ⟨d, h1, r1, t1, x1, y1⟩ := lk_streamLoop (ob := ob) (gc := gc) (lc := lc) (t := a) (n := n) (by omega) ha hn bo 16 (by omega) h rh (by omega)
      refine ⟨d, h1, r1, t1, ?_, ?_⟩
      · intro lf cd bg pb pn xp fh fl fa mk cb mi mb ml pa kb kl kc co px post f i x c hi7 k0 k1 k2 k3 k4 hc' hp
        refine road post f i x c hi7 k0 k1 k2 hc' (fun _ _ => ?_) (fun _ z => by omega) (fun z => by omega) (fun z => by omega)
        have e2 : nI (s * 7 + i) * 19 = nI ((s * 7 + i) * 19) := bn_mul _ 19
        have c1 : (nI ((s * 7 + i) * 19 + 1)).toNatClampNeg = (s * 7 + i) * 19 + 1 := nI_clamp (by omega)
        have cp : (nI (s * 7 + i)).toNatClampNeg = s * 7 + i := nI_clamp (by omega)
        have e3 : nI (n + 3) - 3 = nI n := (pk_sub (a := n + 3) (b := 3) (by omega)).trans (congrArg nI (by omega))
        refine nm_r e2 ?_
        rw [nI_1, c1, k1, cp, k3, e3]
        refine ⟨vp_in_nI (by omega) (by omega), nm_e ⟨vp_in_nI (by omega) (by omega), nm_e ⟨17, ?_⟩⟩⟩
        exact x1 _ (s * 7 + i) 17 (by omega) (by omega) k4 (nm_r (nI_1 i) hp)
      · intro lf cd bg kc pb pn yp ki le go mk cb mb ml la ps pd pt kw kh kf kz ky wo be ma wr post kw' hp
        refine br_t rfl (br_t rfl (br_t (nI_le (a := 3) (by omega) (by omega)) ⟨17, ?_⟩))
        exact y1 _ 17 (by omega) kw' hp
  · obtain ⟨d, h1, r1, t1, x1, y1⟩ := lk_settle (ob := ob) (gc := gc) (lc := lc) (s := s) (n := a) (x3 := if w = 5 then 1 else 0) h rh (by omega) hs ha (by
      by_cases e : w = 5
      · right; rw [if_pos e]
      · left; rw [if_neg e])
    refine ⟨d, dk_mono h1 (by omega), r1, t1, ?_, ?_⟩
    · intro lf cd bg pb pn xp fh fl fa mk cb mi mb ml pa kb kl kc co px post f i x c hi7 k0 k1 k2 k3 k4 hc' hp
      refine road post f i x c hi7 k0 k1 k2 hc' (fun z => by omega) (fun z => by omega) (fun z => ?_) (fun z => ?_)
      · rw [if_pos z] at x1
        exact x1 _ (nm_r (nI_1 i) hp)
      · rw [if_neg (by omega)] at x1
        exact x1 _ (nm_r (nI_1 i) hp)
    · intro lf cd bg kc pb pn yp ki le go mk cb mb ml la ps pd pt kw kh kf kz ky wo be ma wr post kw' hp
      rcases hw with rfl | rfl
      · rw [if_neg (by omega)] at y1
        exact br_t rfl (br_f (by decide) (br_f (by decide) (y1 _ hp)))
      · rw [if_pos rfl] at y1
        exact br_t rfl (br_f (by decide) (br_t rfl (y1 _ hp)))
end STREAM
