section ENDS
variable {st pl md cr : Nat → Int32}
theorem lk_ring {B : Nat} {A : Nat → List bk_E} {g : Nat → Nat} {ol th lr gv ib il it qi qc ta wh od tg tr so bd : Nat → Int32} {fr en : Int32} (h : bk_C B A g st ol th pl md cr lr gv ib il it qi qc ta wh od tg tr so bd fr en) {r : Nat} (hr : r < 16) {l1 l2 : List bk_E} {p : bk_E} (hA : A (3 + r) = l1 ++ p :: l2) :
    th r = 1 ∧ p.2.1 < 112 ∧ ∃ t, pl r = nI t ∧ t < 6 ∧ ((3 ≤ t ∧ p.1 = -1) ∨ (t < 3 ∧ ∃ q k, q < 104 ∧ p.1 = nI q ∧ k ≤ 2 ∧ it q = nI k ∧ tr p.2.1 = nI k)) := by
  have ne : A (3 + r) ≠ [] := by rw [hA]; simp
  have hp : p ∈ A (3 + r) := by rw [hA]; exact List.mem_append_right l1 List.mem_cons_self
  have c0 := h.1.1 (3 + r) p (by omega) hp
  rcases h.2.2.1 r hr with ⟨_, z⟩ | ⟨k0, t, m, c, k1, k2, k3⟩
  · exact absurd z ne
  · refine ⟨k0, c0.1, t, k1, k2, ?_⟩
    have e : 3 + r - 3 = r := by omega
    rcases c0.2.2.1 with ⟨z, q, n, tt, o1, o2, o3, o4, o5, o6, o7, o8, o9, o10⟩ | ⟨z, o⟩
    · right
      rcases z with z | z
      · omega
      · rw [e, k1] at z
        have z : t < 3 := (nI_ltI (a := t) (b := 3) (by omega) (by omega)).mp z
        exact ⟨z, q, tt, o1, o2, o5, o8, o9⟩
    · left
      refine ⟨?_, o⟩
      apply Nat.le_of_not_lt
      intro x
      refine z (Or.inr ?_)
      rw [e, k1]
      exact nI_lt (b := 3) x (by omega)
/-- an entry of ring r comes back, with no try more -/
theorem lk_back0 {B : Nat} {A : Nat → List bk_E} {g : Nat → Nat} {ob : Nat → Int32} {ol : Nat → Int32} {gc : Nat → Int32} {lc : Nat → Int32} {lr : Nat → Int32} {gv : Nat → Int32} {th : Nat → Int32} {hc : Nat → Int32} {hg : Nat → Int32} {hi : Nat → Int32} {ib : Nat → Int32} {il : Nat → Int32} {it : Nat → Int32} {qi : Nat → Int32} {qc : Nat → Int32} {ta : Nat → Int32} {wh : Nat → Int32} {od : Nat → Int32} {tg : Nat → Int32} {tr : Nat → Int32} {so : Nat → Int32} {bd : Nat → Int32} {fr : Int32} {en : Int32} (h : bk_C B A g st ol th pl md cr lr gv ib il it qi qc ta wh od tg tr so bd fr en) (hB : B + 1 ≤ 100000000) {r : Nat} (hr : r < 16) {l1 l2 : List bk_E} {p : bk_E} (hA : A (3 + r) = l1 ++ p :: l2) :
    ∃ d : bk_DT, bk_C (B + 1) (zz_A d) (zz_g d) st (zz_ol d) (zz_th d) pl md cr (zz_lr d) (zz_gv d) (zz_ib d) (zz_il d) (zz_it d) (zz_qi d) (zz_qc d) (zz_ta d) (zz_wh d) (zz_od d) (zz_tg d) (zz_tr d) (zz_so d) (zz_bd d) (zz_fr d) (zz_en d) ∧ zz_A d (3 + r) = l1 ++ l2 ∧ (∀ z, z < 16 → z ≠ r → zz_A d (3 + z) = A (3 + z)) ∧ zz_th d = th ∧ zz_hc d = hc ∧ zz_hg d = hg ∧ zz_hi d = hi ∧
      (∀ {lf cd bg pb pn xp fh fl fa mk cb mi mb ml pa kb kl kc co : Nat → Int32} {px : Int32} (post : SX → Prop), post (px, st, lf, cd, bg, zz_gv d, zz_ob d, zz_ol d, pb, pn, xp, fh, fl, fa, mk, cb, mi, mb, ml, pa, kb, kl, kc, zz_th d, pl, md, cr, zz_hc d, zz_hg d, zz_hi d, zz_ib d, zz_il d, zz_it d, zz_qi d, zz_qc d, zz_gc d, zz_lc d, zz_lr d, co) → wpX_comeBack post (px, st, lf, cd, bg, gv, ob, ol, pb, pn, xp, fh, fl, fa, mk, cb, mi, mb, ml, pa, kb, kl, kc, th, pl, md, cr, hc, hg, hi, ib, il, it, qi, qc, gc, lc, lr, co) (pl r) p.1) ∧
      (∀ {lf cd bg kc pb pn yp ki le go mk cb mb ml la ps pd pt kw kh kf kz ky wo be : Nat → Int32} {ma wr : Int32} (post : SY → Prop), post (zz_fr d, zz_en d, ma, wr, st, lf, cd, zz_ta d, bg, kc, zz_ob d, zz_ol d, pb, pn, yp, ki, le, go, mk, cb, mb, ml, la, ps, pd, pt, kw, kh, kf, kz, ky, zz_th d, pl, md, cr, zz_gc d, zz_lc d, zz_lr d, zz_wh d, zz_od d, zz_tg d, zz_tr d, zz_so d, zz_bd d, wo, be) → wpY_back post (fr, en, ma, wr, st, lf, cd, ta, bg, kc, ob, ol, pb, pn, yp, ki, le, go, mk, cb, mb, ml, la, ps, pd, pt, kw, kh, kf, kz, ky, th, pl, md, cr, gc, lc, lr, wh, od, tg, tr, so, bd, wo, be) (nI r) (nI p.2.1) 0) := by
  obtain ⟨_, hy, t, hpl, ht, hk⟩ := lk_ring h hr hA
  have h8 : t < 3 → (A t).length ≤ 8 := (dk_len h).1 t
  rcases hk with ⟨h3, e⟩ | ⟨h3, q, k, hq, e, hk, hit, htr⟩
  · have w := dk_mono (dk_drop h (it' := it) (tr' := tr) hr hA (fun _ _ _ => rfl) (fun _ _ _ => rfl)) (B' := B + 1) (by omega)
    have f : bk_fre il p.1 = il := by unfold bk_fre; rw [if_pos e]
    rw [f] at w
    refine ⟨(bk_set A (3 + r) (l1 ++ l2), g, ob, ol, gc, lc, lr, gv, th, hc, hg, hi, ib, il, it, qi, qc, ta, upd wh p.2.1 (-1), od, tg, tr, so, bd, fr, en), w, bk_set_s, fun z hz hn => bk_set_n (by omega), rfl, rfl, rfl, rfl, ?_, ?_⟩
    · intro lf cd bg pb pn xp fh fl fa mk cb mi mb ml pa kb kl kc co px post hp
      rw [e]
      exact xk_cb_none hp
    · intro lf cd bg kc pb pn yp ki le go mk cb mb ml la ps pd pt kw kh kf kz ky wo be ma wr post hp
      exact yk_back0 h hr hpl ht hy (fun _ => hp) (fun z => by omega) (fun z => by omega)
  · have hqc := (h.2.1 t h3).1
    by_cases e8 : (A t).length = 8
    · have w := dk_mono (dk_drop h (it' := it) (tr' := tr) hr hA (fun _ _ _ => rfl) (fun _ _ _ => rfl)) (B' := B + 1) (by omega)
      have f : bk_fre il p.1 = upd il q 0 := by unfold bk_fre; rw [if_neg (by rw [e]; exact bk_nm1 (by omega)), e, nI_clamp (by omega)]
      rw [f] at w
      refine ⟨(bk_set A (3 + r) (l1 ++ l2), g, ob, ol, gc, upd lc t (lc t + 1), lr, gv, th, hc, hg, hi, ib, upd il q 0, it, qi, qc, ta, upd wh p.2.1 (-1), od, tg, tr, so, bd, fr, en), w, bk_set_s, fun z hz hn => bk_set_n (by omega), rfl, rfl, rfl, rfl, ?_, ?_⟩
      · intro lf cd bg pb pn xp fh fl fa mk cb mi mb ml pa kb kl kc co px post hp
        rw [e, hpl]
        exact xk_cb_lost h3 hq hit (by omega) hqc (h8 h3) (Or.inr e8) hp
      · intro lf cd bg kc pb pn yp ki le go mk cb mb ml la ps pd pt kw kh kf kz ky wo be ma wr post hp
        exact yk_back0 h hr hpl ht hy (fun z => by omega) (fun _ _ => hp) (fun _ z => by omega)
    · have w := dk_back h (by omega) (it' := it) (tr' := tr) hr hA h3 hpl (by have := h8 h3; omega) (fun _ _ _ => rfl) (fun _ _ _ => rfl) hk (fun q' e' hq' => by
        rw [e] at e'
        have := (nI_eq (by omega) (by omega)).mp e'
        rw [← this]; exact hit) htr
      rw [e] at w
      refine ⟨(bk_set (bk_set A (3 + r) (l1 ++ l2)) t (p :: A t), g, ob, ol, gc, lc, lr, gv, th, hc, hg, hi, ib, il, it, bk_shr qi (t * 8) (A t).length (nI q), upd qc t (nI ((A t).length + 1)), ta, upd wh p.2.1 (nI t), upd od p.2.1 (fr - 1), tg, tr, so, bd, fr - 1, en), w, ?_, fun z hz hn => ?_, rfl, rfl, rfl, rfl, ?_, ?_⟩
      · show bk_set (bk_set A (3 + r) (l1 ++ l2)) t (p :: A t) (3 + r) = _
        rw [bk_set_n (by omega), bk_set_s]
      · show bk_set (bk_set A (3 + r) (l1 ++ l2)) t (p :: A t) (3 + z) = _
        rw [bk_set_n (by omega), bk_set_n (by omega)]
      · intro lf cd bg pb pn xp fh fl fa mk cb mi mb ml pa kb kl kc co px post hp
        rw [e, hpl]
        exact xk_cb_back h3 hq hit hk hqc (by have := h8 h3; omega) hp
      · intro lf cd bg kc pb pn yp ki le go mk cb mb ml la ps pd pt kw kh kf kz ky wo be ma wr post hp
        exact yk_back0 h hr hpl ht hy (fun z => by omega) (fun _ z => absurd z e8) (fun _ _ => hp)
/-- an entry of ring r is refused -/
theorem lk_back1 {B : Nat} {A : Nat → List bk_E} {g : Nat → Nat} {ob : Nat → Int32} {ol : Nat → Int32} {gc : Nat → Int32} {lc : Nat → Int32} {lr : Nat → Int32} {gv : Nat → Int32} {th : Nat → Int32} {hc : Nat → Int32} {hg : Nat → Int32} {hi : Nat → Int32} {ib : Nat → Int32} {il : Nat → Int32} {it : Nat → Int32} {qi : Nat → Int32} {qc : Nat → Int32} {ta : Nat → Int32} {wh : Nat → Int32} {od : Nat → Int32} {tg : Nat → Int32} {tr : Nat → Int32} {so : Nat → Int32} {bd : Nat → Int32} {fr : Int32} {en : Int32} (h : bk_C B A g st ol th pl md cr lr gv ib il it qi qc ta wh od tg tr so bd fr en) (hB : B + 1 ≤ 100000000) {r : Nat} (hr : r < 16) {l1 l2 : List bk_E} {p : bk_E} (hA : A (3 + r) = l1 ++ p :: l2) :
    ∃ d : bk_DT, bk_C (B + 1) (zz_A d) (zz_g d) st (zz_ol d) (zz_th d) pl md cr (zz_lr d) (zz_gv d) (zz_ib d) (zz_il d) (zz_it d) (zz_qi d) (zz_qc d) (zz_ta d) (zz_wh d) (zz_od d) (zz_tg d) (zz_tr d) (zz_so d) (zz_bd d) (zz_fr d) (zz_en d) ∧ zz_A d (3 + r) = l1 ++ l2 ∧ (∀ z, z < 16 → z ≠ r → zz_A d (3 + z) = A (3 + z)) ∧ zz_th d = th ∧ zz_hc d = hc ∧ zz_hg d = hg ∧ zz_hi d = hi ∧ (∀ z, z ∈ l1 ++ l2 → zz_od d z.2.1 = od z.2.1) ∧
      ((p.1 = -1 ∧ ∀ {lf cd bg pb pn xp fh fl fa mk cb mi mb ml pa kb kl kc co : Nat → Int32} {px : Int32} (post : SX → Prop), post (px, st, lf, cd, bg, zz_gv d, zz_ob d, zz_ol d, pb, pn, xp, fh, fl, fa, mk, cb, mi, mb, ml, pa, kb, kl, kc, zz_th d, pl, md, cr, zz_hc d, zz_hg d, zz_hi d, zz_ib d, zz_il d, zz_it d, zz_qi d, zz_qc d, zz_gc d, zz_lc d, zz_lr d, co) → post (px, st, lf, cd, bg, gv, ob, ol, pb, pn, xp, fh, fl, fa, mk, cb, mi, mb, ml, pa, kb, kl, kc, th, pl, md, cr, hc, hg, hi, ib, il, it, qi, qc, gc, lc, lr, co)) ∨ ∃ q, q < 104 ∧ p.1 = nI q ∧ ∀ {lf cd bg pb pn xp fh fl fa mk cb mi mb ml pa kb kl kc co : Nat → Int32} {px : Int32} (post : SX → Prop), post (px, st, lf, cd, bg, zz_gv d, zz_ob d, zz_ol d, pb, pn, xp, fh, fl, fa, mk, cb, mi, mb, ml, pa, kb, kl, kc, zz_th d, pl, md, cr, zz_hc d, zz_hg d, zz_hi d, zz_ib d, zz_il d, zz_it d, zz_qi d, zz_qc d, zz_gc d, zz_lc d, zz_lr d, co) → wpX_comeBack post (px, st, lf, cd, bg, gv, ob, ol, pb, pn, xp, fh, fl, fa, mk, cb, mi, mb, ml, pa, kb, kl, kc, th, pl, md, cr, hc, hg, hi, ib, il, upd it q (it q + 1), qi, qc, gc, lc, lr, co) (pl r) (nI q)) ∧
      (∀ {lf cd bg kc pb pn yp ki le go mk cb mb ml la ps pd pt kw kh kf kz ky wo be : Nat → Int32} {ma wr : Int32} (post : SY → Prop), post (zz_fr d, zz_en d, ma, wr, st, lf, cd, zz_ta d, bg, kc, zz_ob d, zz_ol d, pb, pn, yp, ki, le, go, mk, cb, mb, ml, la, ps, pd, pt, kw, kh, kf, kz, ky, zz_th d, pl, md, cr, zz_gc d, zz_lc d, zz_lr d, zz_wh d, zz_od d, zz_tg d, zz_tr d, zz_so d, zz_bd d, wo, be) → wpY_back post (fr, en, ma, wr, st, lf, cd, ta, bg, kc, ob, ol, pb, pn, yp, ki, le, go, mk, cb, mb, ml, la, ps, pd, pt, kw, kh, kf, kz, ky, th, pl, md, cr, gc, lc, lr, wh, od, tg, tr, so, bd, wo, be) (nI r) (nI p.2.1) 1) := by
  obtain ⟨_, hy, t, hpl, ht, hk⟩ := lk_ring h hr hA
  have h8 : t < 3 → (A t).length ≤ 8 := (dk_len h).1 t
  have hp : p ∈ A (3 + r) := by rw [hA]; exact List.mem_append_right l1 List.mem_cons_self
  have odk : ∀ (x : Int32) z, z ∈ l1 ++ l2 → upd od p.2.1 x z.2.1 = od z.2.1 := by
    intro x z hz
    refine pk_un (fun e => ?_)
    have hz' : z ∈ A (3 + r) := by
      rw [hA]
      rcases List.mem_append.mp hz with q | q
      · exact List.mem_append_left _ q
      · exact List.mem_append_right _ (List.mem_cons_of_mem p q)
    have pw := h.1.2.1 (3 + r) (by omega)
    rw [hA, List.pairwise_append, List.pairwise_cons] at pw
    rcases List.mem_append.mp hz with q | q
    · have := pw.2.2 z q p List.mem_cons_self
      rw [e] at this; omega
    · have := pw.2.1.1 z q
      rw [e] at this; omega
  rcases hk with ⟨h3, e⟩ | ⟨h3, q, k, hq, e, hk, hit, htr⟩
  · have w := dk_mono (dk_drop h (it' := it) (tr' := upd tr p.2.1 (tr p.2.1 + 1)) hr hA (fun _ _ _ => rfl) (fun _ _ ne => pk_un ne)) (B' := B + 1) (by omega)
    have f : bk_fre il p.1 = il := by unfold bk_fre; rw [if_pos e]
    rw [f] at w
    refine ⟨(bk_set A (3 + r) (l1 ++ l2), g, ob, ol, gc, lc, lr, gv, th, hc, hg, hi, ib, il, it, qi, qc, ta, upd wh p.2.1 (-1), od, tg, upd tr p.2.1 (tr p.2.1 + 1), so, bd, fr, en), w, bk_set_s, fun z hz hn => bk_set_n (by omega), rfl, rfl, rfl, rfl, fun _ _ => rfl, Or.inl ⟨e, fun post hp => hp⟩, ?_⟩
    intro lf cd bg kc pb pn yp ki le go mk cb mb ml la ps pd pt kw kh kf kz ky wo be ma wr post hp
    exact yk_back1 (k := 0) h hr hpl ht hy (fun z => by omega) (fun _ => hp) (fun z => by omega) (fun z => by omega)
  · have hqc := (h.2.1 t h3).1
    have ine : ∀ z, z < 104 → nI z ≠ p.1 → upd it q (it q + 1) z = it z := fun z hz ne => pk_un (fun x => ne (by rw [e, x]))
    by_cases e8 : (A t).length = 8 ∨ k = 2
    · have w := dk_mono (dk_drop h (it' := upd it q (it q + 1)) (tr' := upd tr p.2.1 (tr p.2.1 + 1)) hr hA ine (fun _ _ ne => pk_un ne)) (B' := B + 1) (by omega)
      have f : bk_fre il p.1 = upd il q 0 := by unfold bk_fre; rw [if_neg (by rw [e]; exact bk_nm1 (by omega)), e, nI_clamp (by omega)]
      rw [f] at w
      refine ⟨(bk_set A (3 + r) (l1 ++ l2), g, ob, ol, gc, upd lc t (lc t + 1), lr, gv, th, hc, hg, hi, ib, upd il q 0, upd it q (it q + 1), qi, qc, ta, upd wh p.2.1 (-1), od, tg, upd tr p.2.1 (tr p.2.1 + 1), so, bd, fr, en), w, bk_set_s, fun z hz hn => bk_set_n (by omega), rfl, rfl, rfl, rfl, fun _ _ => rfl, Or.inr ⟨q, hq, e, ?_⟩, ?_⟩
      · intro lf cd bg pb pn xp fh fl fa mk cb mi mb ml pa kb kl kc co px post hp
        rw [hpl]
        exact xk_cb_lost (k := k + 1) h3 hq (by rw [pk_us, hit, nI_1]) (by omega) hqc (h8 h3) (by omega) hp
      · intro lf cd bg kc pb pn yp ki le go mk cb mb ml la ps pd pt kw kh kf kz ky wo be ma wr post hp
        exact yk_back1 (k := k) h hr hpl ht hy (fun _ => ⟨htr, hk⟩) (fun z => by omega) (fun _ _ => hp) (fun _ z1 z2 => by omega)
    · have w := dk_back h (by omega) (it' := upd it q (it q + 1)) (tr' := upd tr p.2.1 (tr p.2.1 + 1)) (k := k + 1) hr hA h3 hpl (by have := h8 h3; omega) ine (fun _ _ ne => pk_un ne) (by omega) (fun q' e' hq' => by
        rw [e] at e'
        have := (nI_eq (by omega) (by omega)).mp e'
        rw [← this, pk_us, hit, nI_1]) (by rw [pk_us, htr, nI_1])
      rw [e] at w
      refine ⟨(bk_set (bk_set A (3 + r) (l1 ++ l2)) t (p :: A t), g, ob, ol, gc, lc, lr, gv, th, hc, hg, hi, ib, il, upd it q (it q + 1), bk_shr qi (t * 8) (A t).length (nI q), upd qc t (nI ((A t).length + 1)), ta, upd wh p.2.1 (nI t), upd od p.2.1 (fr - 1), tg, upd tr p.2.1 (tr p.2.1 + 1), so, bd, fr - 1, en), w, ?_, fun z hz hn => ?_, rfl, rfl, rfl, rfl, odk _, Or.inr ⟨q, hq, e, ?_⟩, ?_⟩
      · show bk_set (bk_set A (3 + r) (l1 ++ l2)) t (p :: A t) (3 + r) = _
        rw [bk_set_n (by omega), bk_set_s]
      · show bk_set (bk_set A (3 + r) (l1 ++ l2)) t (p :: A t) (3 + z) = _
        rw [bk_set_n (by omega), bk_set_n (by omega)]
      · intro lf cd bg pb pn xp fh fl fa mk cb mi mb ml pa kb kl kc co px post hp
        rw [hpl]
        exact xk_cb_back (k := k + 1) h3 hq (by rw [pk_us, hit, nI_1]) (by omega) hqc (by have := h8 h3; omega) hp
      · intro lf cd bg kc pb pn yp ki le go mk cb mb ml la ps pd pt kw kh kf kz ky wo be ma wr post hp
        exact yk_back1 (k := k) h hr hpl ht hy (fun _ => ⟨htr, hk⟩) (fun z => by omega) (fun _ z => absurd z e8) (fun _ _ _ => hp)
/-- all that ring r holds comes back, the latest first -/
theorem lk_endLoop {r : Nat} (hr : r < 16) : ∀ (N : Nat) {B : Nat} {A : Nat → List bk_E} {g : Nat → Nat} {ob : Nat → Int32} {ol : Nat → Int32} {gc : Nat → Int32} {lc : Nat → Int32} {lr : Nat → Int32} {gv : Nat → Int32} {th : Nat → Int32} {hc : Nat → Int32} {hg : Nat → Int32} {hi : Nat → Int32} {ib : Nat → Int32} {il : Nat → Int32} {it : Nat → Int32} {qi : Nat → Int32} {qc : Nat → Int32} {ta : Nat → Int32} {wh : Nat → Int32} {od : Nat → Int32} {tg : Nat → Int32} {tr : Nat → Int32} {so : Nat → Int32} {bd : Nat → Int32} {fr : Int32} {en : Int32}, bk_C B A g st ol th pl md cr lr gv ib il it qi qc ta wh od tg tr so bd fr en → (A (3 + r)).length = N → (∀ i p, (A (3 + r))[i]? = some p → hi (r * 5 + i) = p.1) → B + N ≤ 100000000 →
    ∃ d : bk_DT, bk_C (B + N) (zz_A d) (zz_g d) st (zz_ol d) (zz_th d) pl md cr (zz_lr d) (zz_gv d) (zz_ib d) (zz_il d) (zz_it d) (zz_qi d) (zz_qc d) (zz_ta d) (zz_wh d) (zz_od d) (zz_tg d) (zz_tr d) (zz_so d) (zz_bd d) (zz_fr d) (zz_en d) ∧ zz_A d (3 + r) = [] ∧ (∀ z, z < 16 → z ≠ r → zz_A d (3 + z) = A (3 + z)) ∧ zz_th d = upd th r 0 ∧ zz_hc d = upd hc r 0 ∧ zz_hg d = hg ∧ zz_hi d = hi ∧
      (∀ {lf cd bg pb pn xp fh fl fa mk cb mi mb ml pa kb kl kc co : Nat → Int32} {px : Int32} (post : SX → Prop) (f : Nat), N < f → post (px, st, lf, cd, bg, zz_gv d, zz_ob d, zz_ol d, pb, pn, xp, fh, fl, fa, mk, cb, mi, mb, ml, pa, kb, kl, kc, zz_th d, pl, md, cr, zz_hc d, zz_hg d, zz_hi d, zz_ib d, zz_il d, zz_it d, zz_qi d, zz_qc d, zz_gc d, zz_lc d, zz_lr d, co) → wX_endSubscription_19 post (nI r) f (nI N - 1) px st lf cd bg gv ob ol pb pn xp fh fl fa mk cb mi mb ml pa kb kl kc th pl md cr hc hg hi ib il it qi qc gc lc lr co) ∧
      (∀ {lf cd bg kc pb pn yp ki le go mk cb mb ml la ps pd pt kw kh kf kz ky wo be : Nat → Int32} {ma wr : Int32} (post : SY → Prop) (f : Nat) (b : Int32), N < f → ((A (3 + r) = [] ∧ b = -1) ∨ ∃ p l, A (3 + r) = l ++ [p] ∧ b = nI p.2.1) → post (zz_fr d, zz_en d, ma, wr, st, lf, cd, zz_ta d, bg, kc, zz_ob d, zz_ol d, pb, pn, yp, ki, le, go, mk, cb, mb, ml, la, ps, pd, pt, kw, kh, kf, kz, ky, zz_th d, pl, md, cr, zz_gc d, zz_lc d, zz_lr d, zz_wh d, zz_od d, zz_tg d, zz_tr d, zz_so d, zz_bd d, wo, be) → wY_endsOne_6 post (nI r) f b fr en ma wr st lf cd ta bg kc ob ol pb pn yp ki le go mk cb mb ml la ps pd pt kw kh kf kz ky th pl md cr gc lc lr wh od tg tr so bd wo be) := by
  have cr' : (nI r).toNatClampNeg = r := nI_clamp (by omega)
  intro N
  induction N with
  | zero =>
    intro B A g ob ol gc lc lr gv th hc hg hi ib il it qi qc ta wh od tg tr so bd fr en h hN _ hB
    have hA : A (3 + r) = [] := List.length_eq_zero_iff.mp hN
    refine ⟨(A, g, ob, ol, gc, lc, lr, gv, upd th r 0, upd hc r 0, hg, hi, ib, il, it, qi, qc, ta, wh, od, tg, tr, so, bd, fr, en), dk_unsub h hA, hA, fun _ _ _ => rfl, rfl, rfl, rfl, rfl, ?_, ?_⟩
    · intro lf cd bg pb pn xp fh fl fa mk cb mi mb ml pa kb kl kc co px post f hf hp
      obtain ⟨f, rfl⟩ : ∃ f', f = f' + 1 := ⟨f - 1, by omega⟩
      refine br_t (by decide) ⟨pk_in r 16 hr, ?_⟩
      rw [cr', bn_b0]
      exact nm_e ⟨pk_in r 16 hr, nm_e hp⟩
    · intro lf cd bg kc pb pn yp ki le go mk cb mb ml la ps pd pt kw kh kf kz ky wo be ma wr post f b hf hb hp
      obtain ⟨f, rfl⟩ : ∃ f', f = f' + 1 := ⟨f - 1, by omega⟩
      rcases hb with ⟨_, rfl⟩ | ⟨p, l, e, _⟩
      · refine br_t bk_m1lt ⟨pk_in r 16 hr, ?_⟩
        rw [cr', bn_b0]
        exact nm_e hp
      · rw [hA] at e
        exact absurd e.symm (by simp)
  | succ N ih =>
    intro B A g ob ol gc lc lr gv th hc hg hi ib il it qi qc ta wh od tg tr so bd fr en h hN hhi hB
    have h5 := (dk_len h).2 r hr
    rcases List.eq_nil_or_concat (A (3 + r)) with e | ⟨l, p, e⟩
    · rw [e] at hN; cases hN
    rw [List.concat_eq_append] at e
    have hl : l.length = N := by rw [e, List.length_append, List.length_singleton] at hN; omega
    have hAe : A (3 + r) = l ++ p :: [] := e
    have hip := hhi N p (by rw [e, List.getElem?_append_right (by omega), hl, Nat.sub_self]; rfl)
    obtain ⟨d1, c1, a1, o1, t1, b1, b2, b3, x1, y1⟩ := lk_back0 (ob := ob) (gc := gc) (lc := lc) (hc := hc) (hg := hg) (hi := hi) h (by omega) hr hAe
    rw [List.append_nil] at a1
    obtain ⟨d, c2, a2, o2, t2, b4, b5, b6, x2, y2⟩ := ih (ob := zz_ob d1) (gc := zz_gc d1) (lc := zz_lc d1) (hc := zz_hc d1) (hg := zz_hg d1) (hi := zz_hi d1) c1 (by rw [a1]; exact hl) (by
      intro i q hq
      rw [a1] at hq
      rw [b3]
      refine hhi i q ?_
      rw [e, List.getElem?_append_left (bk_lt_of_some hq)]
      exact hq) (by omega)
    refine ⟨d, by rw [Nat.add_assoc, Nat.add_comm 1 N] at c2; exact c2, a2, fun z hz hn => by rw [o2 z hz hn, o1 z hz hn], by rw [t2, t1], by rw [b4, b1], by rw [b5, b2], by rw [b6, b3], ?_, ?_⟩
    · intro lf cd bg pb pn xp fh fl fa mk cb mi mb ml pa kb kl kc co px post f hf hp
      obtain ⟨f, rfl⟩ : ∃ f', f = f' + 1 := ⟨f - 1, by omega⟩
      have ix : nI r * 5 + nI N = nI (r * 5 + N) := by rw [bn_mul, nI_add]
      have ci : (nI (r * 5 + N)).toNatClampNeg = r * 5 + N := nI_clamp (by omega)
      rw [nI_pred]
      refine br_f (nI_pos (by omega)) ⟨pk_in r 16 hr, ?_⟩
      rw [ix, ci, cr', hip]
      refine ⟨pk_in (r * 5 + N) 80 (by omega), x1 _ ?_⟩
      refine nm_r (e' := nI N - 1) (Int32.sub_eq_add_neg (nI N) 1).symm ?_
      exact x2 post f (by omega) hp
    · intro lf cd bg kc pb pn yp ki le go mk cb mb ml la ps pd pt kw kh kf kz ky wo be ma wr post f b hf hb hp
      obtain ⟨f, rfl⟩ : ∃ f', f = f' + 1 := ⟨f - 1, by omega⟩
      rcases hb with ⟨e', _⟩ | ⟨p', l', e', rfl⟩
      · rw [e'] at hN; cases hN
      · rw [e] at e'
        obtain ⟨ee1, ee2⟩ := List.append_inj' e' rfl
        cases ee2
        have hy := (lk_ring h hr hAe).2.1
        refine br_f (nI_pos (by omega)) (y1 _ (yk_newestL c1 hr (fun z => ?_) (fun p'' l'' z => ?_)))
        · exact y2 post f (-1) (by omega) (Or.inl ⟨z, rfl⟩) hp
        · exact y2 post f (nI p''.2.1) (by omega) (Or.inr ⟨p'', l'', z, rfl⟩) hp
/-- a subscription ends, if it is there -/
theorem lk_end1 {B : Nat} {A : Nat → List bk_E} {g : Nat → Nat} {ob : Nat → Int32} {ol : Nat → Int32} {gc : Nat → Int32} {lc : Nat → Int32} {lr : Nat → Int32} {gv : Nat → Int32} {th : Nat → Int32} {hc : Nat → Int32} {hg : Nat → Int32} {hi : Nat → Int32} {ib : Nat → Int32} {il : Nat → Int32} {it : Nat → Int32} {qi : Nat → Int32} {qc : Nat → Int32} {ta : Nat → Int32} {wh : Nat → Int32} {od : Nat → Int32} {tg : Nat → Int32} {tr : Nat → Int32} {so : Nat → Int32} {bd : Nat → Int32} {fr : Int32} {en : Int32} (h : bk_C B A g st ol th pl md cr lr gv ib il it qi qc ta wh od tg tr so bd fr en) (rh : bk_RH A hi hg hc) (hB : B + 5 ≤ 100000000) {r : Nat} (hr : r < 16) :
    ∃ d : bk_DT, bk_C (B + 5) (zz_A d) (zz_g d) st (zz_ol d) (zz_th d) pl md cr (zz_lr d) (zz_gv d) (zz_ib d) (zz_il d) (zz_it d) (zz_qi d) (zz_qc d) (zz_ta d) (zz_wh d) (zz_od d) (zz_tg d) (zz_tr d) (zz_so d) (zz_bd d) (zz_fr d) (zz_en d) ∧ bk_RH (zz_A d) (zz_hi d) (zz_hg d) (zz_hc d) ∧ zz_th d = upd th r 0 ∧ (th r = 0 → d = (A, g, ob, ol, gc, lc, lr, gv, th, hc, hg, hi, ib, il, it, qi, qc, ta, wh, od, tg, tr, so, bd, fr, en)) ∧
      (∀ {lf cd bg pb pn xp fh fl fa mk cb mi mb ml pa kb kl kc co : Nat → Int32} {px : Int32} (post : SX → Prop), post (px, st, lf, cd, bg, zz_gv d, zz_ob d, zz_ol d, pb, pn, xp, fh, fl, fa, mk, cb, mi, mb, ml, pa, kb, kl, kc, zz_th d, pl, md, cr, zz_hc d, zz_hg d, zz_hi d, zz_ib d, zz_il d, zz_it d, zz_qi d, zz_qc d, zz_gc d, zz_lc d, zz_lr d, co) → wpX_endSubscription post (px, st, lf, cd, bg, gv, ob, ol, pb, pn, xp, fh, fl, fa, mk, cb, mi, mb, ml, pa, kb, kl, kc, th, pl, md, cr, hc, hg, hi, ib, il, it, qi, qc, gc, lc, lr, co) (nI r)) ∧
      (th r ≠ 0 → ∀ {lf cd bg kc pb pn yp ki le go mk cb mb ml la ps pd pt kw kh kf kz ky wo be : Nat → Int32} {ma wr : Int32} (post : SY → Prop), post (zz_fr d, zz_en d, ma, wr, st, lf, cd, zz_ta d, bg, kc, zz_ob d, zz_ol d, pb, pn, yp, ki, le, go, mk, cb, mb, ml, la, ps, pd, pt, kw, kh, kf, kz, ky, zz_th d, pl, md, cr, zz_gc d, zz_lc d, zz_lr d, zz_wh d, zz_od d, zz_tg d, zz_tr d, zz_so d, zz_bd d, wo, be) → wpY_endsOne post (fr, en, ma, wr, st, lf, cd, ta, bg, kc, ob, ol, pb, pn, yp, ki, le, go, mk, cb, mb, ml, la, ps, pd, pt, kw, kh, kf, kz, ky, th, pl, md, cr, gc, lc, lr, wh, od, tg, tr, so, bd, wo, be) (nI r)) := by
  have cr' : (nI r).toNatClampNeg = r := nI_clamp (by omega)
  by_cases e : th r = 0
  · refine ⟨(A, g, ob, ol, gc, lc, lr, gv, th, hc, hg, hi, ib, il, it, qi, qc, ta, wh, od, tg, tr, so, bd, fr, en), dk_mono h (by omega), rh, (bk_uid th r 0 e).symm, fun _ => rfl, ?_, fun z => absurd e z⟩
    intro lf cd bg pb pn xp fh fl fa mk cb mi mb ml pa kb kl kc co px post hp
    refine ⟨pk_in r 16 hr, ?_⟩
    rw [cr']
    exact br_t e hp
  · have h5 := (dk_len h).2 r hr
    obtain ⟨d, c2, a2, o2, t2, b4, b5, b6, x2, y2⟩ := lk_endLoop (ob := ob) (gc := gc) (lc := lc) (hc := hc) (hg := hg) (hi := hi) hr (A (3 + r)).length h rfl (fun i p z => ((rh r hr).2 i p z).1) (by omega)
    refine ⟨d, dk_mono c2 (by omega), ?_, t2, fun z => absurd z e, ?_, fun _ => ?_⟩
    · have w := bk_RH_nil rh hr
      intro z hz
      rw [b4, b5, b6]
      have w' := w z hz
      by_cases ez : z = r
      · subst ez
        rw [bk_set_s] at w'
        rw [a2]
        exact w'
      · rw [bk_set_n (show 3 + z ≠ 3 + r by omega)] at w'
        rw [o2 z hz ez]
        exact w'
    · intro lf cd bg pb pn xp fh fl fa mk cb mi mb ml pa kb kl kc co px post hp
      refine ⟨pk_in r 16 hr, ?_⟩
      rw [cr', (rh r hr).1]
      exact br_f e ⟨pk_in r 16 hr, nm_e ⟨(A (3 + r)).length + 1, x2 post _ (by omega) hp⟩⟩
    · intro lf cd bg kc pb pn yp ki le go mk cb mb ml la ps pd pt kw kh kf kz ky wo be ma wr post hp
      refine yk_newestL h hr (fun z => ?_) (fun p l z => ?_)
      · exact ⟨(A (3 + r)).length + 1, y2 post _ (-1) (by omega) (Or.inl ⟨z, rfl⟩) hp⟩
      · exact ⟨(A (3 + r)).length + 1, y2 post _ (nI p.2.1) (by omega) (Or.inr ⟨p, l, z, rfl⟩) hp⟩
end ENDS
