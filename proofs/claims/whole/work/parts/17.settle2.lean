/-! taken and refused -/
theorem bk_cut_0 (f : Nat → Int32) (b i n : Nat) : bk_cut f b i n (i + n) = f := by
  funext j; unfold bk_cut; rw [if_neg (by omega)]
theorem bk_cut_o (f : Nat → Int32) (b i n e : Nat) : bk_cut f b i n e (b + e) = f (b + e) := by
  unfold bk_cut; rw [if_neg (by omega)]
theorem bk_cut_s (f : Nat → Int32) (b i n e : Nat) (h : i + n ≤ e) : upd (bk_cut f b i n e) (b + e - n) (f (b + e)) = bk_cut f b i n (e + 1) := by
  funext j
  unfold upd bk_cut
  by_cases x : j = b + e - n
  · rw [if_pos x, if_pos (by omega)]
    exact congrArg f (by omega)
  · rw [if_neg x]
    by_cases y : b + i ≤ j ∧ j + n < b + e
    · rw [if_pos y, if_pos (by omega)]
    · rw [if_neg y, if_neg (by omega)]
theorem bk_dlt {k : Nat} (h : k < 1000) : nI k + (-1) < nI k := by
  rw [Int32.lt_iff_toInt_lt, nI_toInt (by omega)]
  cases k with
  | zero => decide
  | succ k => rw [pk_m1, nI_toInt (by omega)]; omega
section FORGET
variable {B : Nat} {A : Nat → List bk_E} {g : Nat → Nat} {st lf cd bg gv ob ol pb pn xp fh fl fa mk cb mi mb ml pa kb kl kc th pl md cr hc hg hi ib il it qi qc gc lc lr co ta yp ki le go la ps pd pt kw kh kf kz ky wh od tg tr so bd wo be : Nat → Int32} {px fr en ma wr : Int32}
theorem xk_fg24 {post : SX → Prop} {r i n e : Nat} (hr : r < 16) (hn : 1 ≤ n) (he : e ≤ 5) (hc' : hc r = nI e) (hin : i + n ≤ e)
    (hp : post (px, st, lf, cd, bg, gv, ob, ol, pb, pn, xp, fh, fl, fa, mk, cb, mi, mb, ml, pa, kb, kl, kc, th, pl, md, cr, upd hc r (nI (e - n)), bk_cut hg (r * 5) i n e, bk_cut hi (r * 5) i n e, ib, il, it, qi, qc, gc, lc, lr, co)) :
    ∀ f k, i + n ≤ k → k ≤ e → e - k < f → wX_forgetHeld_24 post (nI r) (nI (r * 5 + e)) (nI n) px f (nI (r * 5 + k)) st lf cd bg gv ob ol pb pn xp fh fl fa mk cb mi mb ml pa kb kl kc th pl md cr hc (bk_cut hg (r * 5) i n k) (bk_cut hi (r * 5) i n k) ib il it qi qc gc lc lr co
  | 0, k, _, _, h => by omega
  | f + 1, k, h1, h2, h3 => by
    have cr' : (nI r).toNatClampNeg = r := nI_clamp (by omega)
    have ck : (nI (r * 5 + k)).toNatClampNeg = r * 5 + k := nI_clamp (by omega)
    have sk : nI (r * 5 + k) - nI n = nI (r * 5 + k - n) := pk_sub (by omega)
    have csk : (nI (r * 5 + k - n)).toNatClampNeg = r * 5 + k - n := nI_clamp (by omega)
    refine pk_le (r * 5 + e) (r * 5 + k) (fun g => ⟨pk_in r 16 hr, pk_in r 16 hr, ?_⟩) (fun g => ?_)
    · have : k = e := by omega
      subst this
      rw [cr', hc', pk_sub (by omega)]
      exact nm_e hp
    · rw [ck, sk, csk, bk_cut_o, bk_cut_o, bk_cut_s _ _ _ _ _ h1, bk_cut_s _ _ _ _ _ h1]
      exact ⟨vp_in_nI (by omega) (by omega), vp_in_nI (by omega) (by omega), nm_e ⟨vp_in_nI (by omega) (by omega), vp_in_nI (by omega) (by omega), nm_e (nm_r (nI_1 (r * 5 + k)) (xk_fg24 hr hn he hc' hin hp f (k + 1) (by omega) (by omega) (by omega)))⟩⟩
theorem xk_forget {post : SX → Prop} {r i n e : Nat} (hr : r < 16) (hn : 1 ≤ n) (he : e ≤ 5) (hc' : hc r = nI e) (hin : i + n ≤ e)
    (hp : post (px, st, lf, cd, bg, gv, ob, ol, pb, pn, xp, fh, fl, fa, mk, cb, mi, mb, ml, pa, kb, kl, kc, th, pl, md, cr, upd hc r (nI (e - n)), bk_cut hg (r * 5) i n e, bk_cut hi (r * 5) i n e, ib, il, it, qi, qc, gc, lc, lr, co)) : wpX_forgetHeld post (px, st, lf, cd, bg, gv, ob, ol, pb, pn, xp, fh, fl, fa, mk, cb, mi, mb, ml, pa, kb, kl, kc, th, pl, md, cr, hc, hg, hi, ib, il, it, qi, qc, gc, lc, lr, co) (nI r) (nI (r * 5 + i)) (nI (r * 5 + (i + n - 1))) := by
  have cr' : (nI r).toNatClampNeg = r := nI_clamp (by omega)
  have e1 : nI r * 5 + nI e = nI (r * 5 + e) := by rw [bn_mul, nI_add]
  have e2 : nI (r * 5 + (i + n - 1)) - nI (r * 5 + i) + 1 = nI n := by
    rw [pk_sub (by omega), nI_1]
    exact congrArg nI (by omega)
  have e3 : nI (r * 5 + (i + n - 1)) + 1 = nI (r * 5 + (i + n)) := by
    rw [nI_1]
    exact congrArg nI (by omega)
  have w := xk_fg24 (px := px) hr hn he hc' hin hp (e + 1) (i + n) (Nat.le_refl _) hin (by omega)
  rw [bk_cut_0, bk_cut_0] at w
  refine ⟨pk_in r 16 hr, ?_⟩
  rw [cr', hc', e1, e2, e3]
  exact nm_e (nm_e (nm_e ⟨e + 1, w⟩))
end FORGET
section SETTLE
variable {st pl md cr : Nat → Int32}
/-- one entry is taken (x3 = 0) or refused (x3 = 1) -/
theorem lk_set1 {B : Nat} {A : Nat → List bk_E} {g : Nat → Nat} {ob : Nat → Int32} {ol : Nat → Int32} {gc : Nat → Int32} {lc : Nat → Int32} {lr : Nat → Int32} {gv : Nat → Int32} {th : Nat → Int32} {hc : Nat → Int32} {hg : Nat → Int32} {hi : Nat → Int32} {ib : Nat → Int32} {il : Nat → Int32} {it : Nat → Int32} {qi : Nat → Int32} {qc : Nat → Int32} {ta : Nat → Int32} {wh : Nat → Int32} {od : Nat → Int32} {tg : Nat → Int32} {tr : Nat → Int32} {so : Nat → Int32} {bd : Nat → Int32} {fr : Int32} {en : Int32} (h : bk_C B A g st ol th pl md cr lr gv ib il it qi qc ta wh od tg tr so bd fr en) (hB : B + 1 ≤ 100000000) {r i : Nat} (hr : r < 16) {l1 l2 : List bk_E} {p : bk_E} (hA : A (3 + r) = l1 ++ p :: l2) (hi5 : i < 5) (hip : hi (r * 5 + i) = p.1) {x3 : Int32} (h3 : x3 = 0 ∨ x3 = 1) :
    ∃ d : bk_DT, bk_C (B + 1) (zz_A d) (zz_g d) st (zz_ol d) (zz_th d) pl md cr (zz_lr d) (zz_gv d) (zz_ib d) (zz_il d) (zz_it d) (zz_qi d) (zz_qc d) (zz_ta d) (zz_wh d) (zz_od d) (zz_tg d) (zz_tr d) (zz_so d) (zz_bd d) (zz_fr d) (zz_en d) ∧ zz_A d (3 + r) = l1 ++ l2 ∧ (∀ z, z < 16 → z ≠ r → zz_A d (3 + z) = A (3 + z)) ∧ zz_th d = th ∧ zz_hc d = hc ∧ zz_hg d = hg ∧ zz_hi d = hi ∧ (∀ z, z ∈ l1 ++ l2 → zz_od d z.2.1 = od z.2.1) ∧
      (∀ {lf cd bg pb pn xp fh fl fa mk cb mi mb ml pa kb kl kc co : Nat → Int32} {px : Int32} (post : SX → Prop) (x4 x6 : Int32) (f : Nat), ¬ nI (r * 5 + i) < x6 → wX_settle_46 post x3 x4 (nI r) x6 f (nI (r * 5 + i) + (-1)) px st lf cd bg (zz_gv d) (zz_ob d) (zz_ol d) pb pn xp fh fl fa mk cb mi mb ml pa kb kl kc (zz_th d) pl md cr (zz_hc d) (zz_hg d) (zz_hi d) (zz_ib d) (zz_il d) (zz_it d) (zz_qi d) (zz_qc d) (zz_gc d) (zz_lc d) (zz_lr d) co → wX_settle_46 post x3 x4 (nI r) x6 (f + 1) (nI (r * 5 + i)) px st lf cd bg gv ob ol pb pn xp fh fl fa mk cb mi mb ml pa kb kl kc th pl md cr hc hg hi ib il it qi qc gc lc lr co) ∧
      (∀ {lf cd bg kc pb pn yp ki le go mk cb mb ml la ps pd pt kw kh kf kz ky wo be : Nat → Int32} {ma wr : Int32} (post : SY → Prop) (x6 : Int32) (f : Nat), wY_answer_158 post (wY_answer_129 post x3 (nI r) x6 f) x3 (nI r) x6 (zz_fr d) (zz_en d) ma wr st lf cd (zz_ta d) bg kc (zz_ob d) (zz_ol d) pb pn yp ki le go mk cb mb ml la ps pd pt kw kh kf kz ky (zz_th d) pl md cr (zz_gc d) (zz_lc d) (zz_lr d) (zz_wh d) (zz_od d) (zz_tg d) (zz_tr d) (zz_so d) (zz_bd d) wo be → wY_answer_129 post x3 (nI r) x6 (f + 1) (nI p.2.1) 1 fr en ma wr st lf cd ta bg kc ob ol pb pn yp ki le go mk cb mb ml la ps pd pt kw kh kf kz ky th pl md cr gc lc lr wh od tg tr so bd wo be) := by
  have cr' : (nI r).toNatClampNeg = r := nI_clamp (by omega)
  have ci : (nI (r * 5 + i)).toNatClampNeg = r * 5 + i := nI_clamp (by omega)
  have i80 : vp_in (nI (r * 5 + i)) 80 := vp_in_nI (by omega) (by omega)
  obtain ⟨_, hy, t, hpl, ht, hk⟩ := lk_ring h hr hA
  have cy : (nI p.2.1).toNatClampNeg = p.2.1 := nI_clamp (by omega)
  rcases h3 with rfl | rfl
  · have w := dk_mono (dk_drop h (it' := it) (tr' := tr) hr hA (fun _ _ _ => rfl) (fun _ _ _ => rfl)) (B' := B + 1) (by omega)
    refine ⟨(bk_set A (3 + r) (l1 ++ l2), g, ob, ol, gc, lc, lr, gv, th, hc, hg, hi, ib, bk_fre il p.1, it, qi, qc, ta, upd wh p.2.1 (-1), od, tg, tr, so, bd, fr, en), w, bk_set_s, fun z hz hn => bk_set_n (by omega), rfl, rfl, rfl, rfl, fun _ _ => rfl, ?_, ?_⟩
    · intro lf cd bg pb pn xp fh fl fa mk cb mi mb ml pa kb kl kc co px post x4 x6 f hx hp
      refine br_f hx ⟨i80, ?_⟩
      rw [ci, hip]
      refine nm_e ?_
      unfold bk_fre at hp
      rcases hk with ⟨_, e⟩ | ⟨_, q, k, hq, e, _⟩
      · rw [if_pos e] at hp
        exact br_t e (nm_e hp)
      · rw [if_neg (by rw [e]; exact bk_nm1 (by omega))] at hp
        refine br_f (by rw [e]; exact bk_nm1 (by omega)) (br_t rfl ⟨by rw [e]; exact pk_in q 104 hq, nm_e (nm_e hp)⟩)
    · intro lf cd bg kc pb pn yp ki le go mk cb mb ml la ps pd pt kw kh kf kz ky wo be ma wr post x6 f hp
      refine br_f (by decide) (br_t rfl ⟨pk_in _ 112 hy, ?_⟩)
      rw [cy]
      exact nm_e hp
  · obtain ⟨d, c1, a1, o1, t1, b1, b2, b3, od1, x1, y1⟩ := lk_back1 (ob := ob) (gc := gc) (lc := lc) (hc := hc) (hg := hg) (hi := hi) h hB hr hA
    refine ⟨d, c1, a1, o1, t1, b1, b2, b3, od1, ?_, ?_⟩
    · intro lf cd bg pb pn xp fh fl fa mk cb mi mb ml pa kb kl kc co px post x4 x6 f hx hp
      refine br_f hx ⟨i80, ?_⟩
      rw [ci, hip]
      refine nm_e ?_
      rcases x1 with ⟨e, x1⟩ | ⟨q, hq, e, x1⟩
      · refine br_t e (nm_e ?_)
        exact x1 (fun u => match u with | (px, st, lf, cd, bg, gv, ob, ol, pb, pn, xp, fh, fl, fa, mk, cb, mi, mb, ml, pa, kb, kl, kc, th, pl, md, cr, hc, hg, hi, ib, il, it, qi, qc, gc, lc, lr, co) => wX_settle_46 post 1 x4 (nI r) x6 f (nI (r * 5 + i) + (-1)) px st lf cd bg gv ob ol pb pn xp fh fl fa mk cb mi mb ml pa kb kl kc th pl md cr hc hg hi ib il it qi qc gc lc lr co) hp
      · rw [e]
        have cq : (nI q).toNatClampNeg = q := nI_clamp (by omega)
        refine br_f (bk_nm1 (by omega)) (br_f (by decide) ⟨pk_in q 104 hq, pk_in q 104 hq, ?_⟩)
        rw [cq, cr']
        exact nm_e ⟨pk_in r 16 hr, x1 _ (nm_e hp)⟩
    · intro lf cd bg kc pb pn yp ki le go mk cb mb ml la ps pd pt kw kh kf kz ky wo be ma wr post x6 f hp
      exact br_f (by decide) (br_f (by decide) (y1 _ hp))
/-- with MODE 2: this one and those held for longer -/
theorem lk_set2 {r : Nat} (hr : r < 16) {x3 T : Int32} (h3 : x3 = 0 ∨ x3 = 1) (hm : md r = 2) : ∀ (N : Nat) {B : Nat} {A : Nat → List bk_E} {g : Nat → Nat} {ob : Nat → Int32} {ol : Nat → Int32} {gc : Nat → Int32} {lc : Nat → Int32} {lr : Nat → Int32} {gv : Nat → Int32} {th : Nat → Int32} {hc : Nat → Int32} {hg : Nat → Int32} {hi : Nat → Int32} {ib : Nat → Int32} {il : Nat → Int32} {it : Nat → Int32} {qi : Nat → Int32} {qc : Nat → Int32} {ta : Nat → Int32} {wh : Nat → Int32} {od : Nat → Int32} {tg : Nat → Int32} {tr : Nat → Int32} {so : Nat → Int32} {bd : Nat → Int32} {fr : Int32} {en : Int32} {l1 l2 : List bk_E} {p : bk_E}, bk_C B A g st ol th pl md cr lr gv ib il it qi qc ta wh od tg tr so bd fr en → A (3 + r) = l1 ++ p :: l2 → l1.length = N → (∀ i z, (l1 ++ [p])[i]? = some z → hi (r * 5 + i) = z.1) →
      (∀ z, z ∈ l1 → od z.2.1 < T) → (∀ z, z ∈ l2 → ¬ od z.2.1 < T) → B + (N + 1) ≤ 100000000 →
    ∃ d : bk_DT, bk_C (B + (N + 1)) (zz_A d) (zz_g d) st (zz_ol d) (zz_th d) pl md cr (zz_lr d) (zz_gv d) (zz_ib d) (zz_il d) (zz_it d) (zz_qi d) (zz_qc d) (zz_ta d) (zz_wh d) (zz_od d) (zz_tg d) (zz_tr d) (zz_so d) (zz_bd d) (zz_fr d) (zz_en d) ∧ zz_A d (3 + r) = l2 ∧ (∀ z, z < 16 → z ≠ r → zz_A d (3 + z) = A (3 + z)) ∧ zz_th d = th ∧ zz_hc d = hc ∧ zz_hg d = hg ∧ zz_hi d = hi ∧
      (∀ {lf cd bg pb pn xp fh fl fa mk cb mi mb ml pa kb kl kc co : Nat → Int32} {px : Int32} (post : SX → Prop) (x4 : Int32) (f : Nat), N + 1 < f → wpX_forgetHeld (fun u => match u with | (px, st, lf, cd, bg, gv, ob, ol, pb, pn, xp, fh, fl, fa, mk, cb, mi, mb, ml, pa, kb, kl, kc, th, pl, md, cr, hc, hg, hi, ib, il, it, qi, qc, gc, lc, lr, co) => post (px, st, lf, cd, bg, gv, ob, ol, pb, pn, xp, fh, fl, fa, mk, cb, mi, mb, ml, pa, kb, kl, kc, th, pl, md, cr, hc, hg, hi, ib, il, it, qi, qc, gc, lc, lr, co)) (px, st, lf, cd, bg, zz_gv d, zz_ob d, zz_ol d, pb, pn, xp, fh, fl, fa, mk, cb, mi, mb, ml, pa, kb, kl, kc, zz_th d, pl, md, cr, zz_hc d, zz_hg d, zz_hi d, zz_ib d, zz_il d, zz_it d, zz_qi d, zz_qc d, zz_gc d, zz_lc d, zz_lr d, co) (nI r) (nI (r * 5)) x4 → wX_settle_46 post x3 x4 (nI r) (nI (r * 5)) f (nI (r * 5 + N)) px st lf cd bg gv ob ol pb pn xp fh fl fa mk cb mi mb ml pa kb kl kc th pl md cr hc hg hi ib il it qi qc gc lc lr co) ∧
      (∀ {lf cd bg kc pb pn yp ki le go mk cb mb ml la ps pd pt kw kh kf kz ky wo be : Nat → Int32} {ma wr : Int32} (post : SY → Prop) (f : Nat), N + 1 < f → post (zz_fr d, zz_en d, ma, wr, st, lf, cd, zz_ta d, bg, kc, zz_ob d, zz_ol d, pb, pn, yp, ki, le, go, mk, cb, mb, ml, la, ps, pd, pt, kw, kh, kf, kz, ky, zz_th d, pl, md, cr, zz_gc d, zz_lc d, zz_lr d, zz_wh d, zz_od d, zz_tg d, zz_tr d, zz_so d, zz_bd d, wo, be) → wY_answer_129 post x3 (nI r) T f (nI p.2.1) 1 fr en ma wr st lf cd ta bg kc ob ol pb pn yp ki le go mk cb mb ml la ps pd pt kw kh kf kz ky th pl md cr gc lc lr wh od tg tr so bd wo be) := by
  have cr' : (nI r).toNatClampNeg = r := nI_clamp (by omega)
  intro N
  induction N with
  | zero =>
    intro B A g ob ol gc lc lr gv th hc hg hi ib il it qi qc ta wh od tg tr so bd fr en l1 l2 p h hA hl hhi q1 q2 hB
    have e0 : l1 = [] := List.length_eq_zero_iff.mp hl
    subst e0
    obtain ⟨d, c1, a1, o1, t1, b1, b2, b3, od1, x1, y1⟩ := lk_set1 (i := 0) (ob := ob) (gc := gc) (lc := lc) (hc := hc) (hg := hg) (hi := hi) h (by omega) hr hA (by omega) (hhi 0 p rfl) h3
    refine ⟨d, c1, a1, o1, t1, b1, b2, b3, ?_, ?_⟩
    · intro lf cd bg pb pn xp fh fl fa mk cb mi mb ml pa kb kl kc co px post x4 f hf hp
      obtain ⟨f, rfl⟩ : ∃ f', f = f' + 1 + 1 := ⟨f - 2, by omega⟩
      exact x1 post x4 (nI (r * 5)) (f + 1) (nI_nlt (by omega) (by omega)) (br_t (bk_dlt (by omega)) hp)
    · intro lf cd bg kc pb pn yp ki le go mk cb mb ml la ps pd pt kw kh kf kz ky wo be ma wr post f hf hp
      obtain ⟨f, rfl⟩ : ∃ f', f = f' + 1 + 1 := ⟨f - 2, by omega⟩
      refine y1 post T (f + 1) ⟨pk_in r 16 hr, ?_⟩
      rw [cr']
      refine br_t hm (yk_belowL (l1 := []) (l2 := l2) c1 hr a1 (fun z hz => absurd hz List.not_mem_nil) (fun z hz => by rw [od1 z hz]; exact q2 z hz) (fun _ => ?_) (fun p' l' e => by simp at e))
      exact br_t bk_m1lt (br_t rfl hp)
  | succ N ih =>
    intro B A g ob ol gc lc lr gv th hc hg hi ib il it qi qc ta wh od tg tr so bd fr en l1 l2 p h hA hl hhi q1 q2 hB
    have h5 := (dk_len h).2 r hr
    rw [hA] at h5
    simp only [List.length_append, List.length_cons] at h5
    rcases List.eq_nil_or_concat l1 with e0 | ⟨l, p', e0⟩
    · rw [e0] at hl; cases hl
    rw [List.concat_eq_append] at e0
    subst e0
    have hl' : l.length = N := by rw [List.length_append, List.length_singleton] at hl; omega
    obtain ⟨d1, c1, a1, o1, t1, b1, b2, b3, od1, x1, y1⟩ := lk_set1 (i := N + 1) (ob := ob) (gc := gc) (lc := lc) (hc := hc) (hg := hg) (hi := hi) h (by omega) hr hA (by omega) (hhi (N + 1) p (by rw [List.getElem?_append_right (by omega), hl, Nat.sub_self]; rfl)) h3
    have a1' : zz_A d1 (3 + r) = l ++ p' :: l2 := by rw [a1, List.append_assoc]; rfl
    obtain ⟨d, c2, a2, o2, t2, b4, b5, b6, x2, y2⟩ := ih (ob := zz_ob d1) (gc := zz_gc d1) (lc := zz_lc d1) (hc := zz_hc d1) (hg := zz_hg d1) (hi := zz_hi d1) c1 a1' hl' (by
      intro i z hz
      rw [b3]
      refine hhi i z ?_
      rw [List.getElem?_append_left (bk_lt_of_some hz)]
      exact hz) (fun z hz => by rw [od1 z (List.mem_append_left _ (List.mem_append_left _ hz))]; exact q1 z (List.mem_append_left _ hz)) (fun z hz => by rw [od1 z (List.mem_append_right _ hz)]; exact q2 z hz) (by omega)
    refine ⟨d, by rw [Nat.add_assoc, Nat.add_comm 1 (N + 1)] at c2; exact c2, a2, fun z hz hn => by rw [o2 z hz hn, o1 z hz hn], by rw [t2, t1], by rw [b4, b1], by rw [b5, b2], by rw [b6, b3], ?_, ?_⟩
    · intro lf cd bg pb pn xp fh fl fa mk cb mi mb ml pa kb kl kc co px post x4 f hf hp
      obtain ⟨f, rfl⟩ : ∃ f', f = f' + 1 := ⟨f - 1, by omega⟩
      refine x1 post x4 (nI (r * 5)) f (nI_nlt (by omega) (by omega)) ?_
      rw [show r * 5 + (N + 1) = (r * 5 + N) + 1 by omega, pk_m1]
      exact x2 post x4 f (by omega) hp
    · intro lf cd bg kc pb pn yp ki le go mk cb mb ml la ps pd pt kw kh kf kz ky wo be ma wr post f hf hp
      obtain ⟨f, rfl⟩ : ∃ f', f = f' + 1 := ⟨f - 1, by omega⟩
      refine y1 post T f ⟨pk_in r 16 hr, ?_⟩
      rw [cr']
      refine br_t hm (yk_belowL (l1 := l ++ [p']) (l2 := l2) c1 hr a1 (fun z hz => by rw [od1 z (List.mem_append_left _ hz)]; exact q1 z hz) (fun z hz => by rw [od1 z (List.mem_append_right _ hz)]; exact q2 z hz) (fun e => by simp at e) (fun p'' l'' e => ?_))
      obtain ⟨_, e2⟩ := List.append_inj' e rfl
      cases e2
      have hy := (lk_ring c1 hr a1').2.1
      exact br_f (nI_pos (by omega)) (y2 post f (by omega) hp)
/-- taken, refused -/
theorem lk_settle {B : Nat} {A : Nat → List bk_E} {g : Nat → Nat} {ob : Nat → Int32} {ol : Nat → Int32} {gc : Nat → Int32} {lc : Nat → Int32} {lr : Nat → Int32} {gv : Nat → Int32} {th : Nat → Int32} {hc : Nat → Int32} {hg : Nat → Int32} {hi : Nat → Int32} {ib : Nat → Int32} {il : Nat → Int32} {it : Nat → Int32} {qi : Nat → Int32} {qc : Nat → Int32} {ta : Nat → Int32} {wh : Nat → Int32} {od : Nat → Int32} {tg : Nat → Int32} {tr : Nat → Int32} {so : Nat → Int32} {bd : Nat → Int32} {fr : Int32} {en : Int32} (h : bk_C B A g st ol th pl md cr lr gv ib il it qi qc ta wh od tg tr so bd fr en) (rh : bk_RH A hi hg hc) (hB : B + 5 ≤ 100000000) {s n : Nat} (hs : s < 4) (hn : n < 256) {x3 : Int32} (h3 : x3 = 0 ∨ x3 = 1) :
    ∃ d : bk_DT, bk_C (B + 5) (zz_A d) (zz_g d) st (zz_ol d) (zz_th d) pl md cr (zz_lr d) (zz_gv d) (zz_ib d) (zz_il d) (zz_it d) (zz_qi d) (zz_qc d) (zz_ta d) (zz_wh d) (zz_od d) (zz_tg d) (zz_tr d) (zz_so d) (zz_bd d) (zz_fr d) (zz_en d) ∧ bk_RH (zz_A d) (zz_hi d) (zz_hg d) (zz_hc d) ∧ zz_th d = th ∧
      (∀ {lf cd bg pb pn xp fh fl fa mk cb mi mb ml pa kb kl kc co : Nat → Int32} {px : Int32} (post : SX → Prop), post (px, st, lf, cd, bg, zz_gv d, zz_ob d, zz_ol d, pb, pn, xp, fh, fl, fa, mk, cb, mi, mb, ml, pa, kb, kl, kc, zz_th d, pl, md, cr, zz_hc d, zz_hg d, zz_hi d, zz_ib d, zz_il d, zz_it d, zz_qi d, zz_qc d, zz_gc d, zz_lc d, zz_lr d, co) → wpX_settle post (px, st, lf, cd, bg, gv, ob, ol, pb, pn, xp, fh, fl, fa, mk, cb, mi, mb, ml, pa, kb, kl, kc, th, pl, md, cr, hc, hg, hi, ib, il, it, qi, qc, gc, lc, lr, co) (nI s) (nI n) x3) ∧
      (∀ {lf cd bg kc pb pn yp ki le go mk cb mb ml la ps pd pt kw kh kf kz ky wo be : Nat → Int32} {ma wr : Int32} (post : SY → Prop), post (zz_fr d, zz_en d, ma, wr, st, lf, cd, zz_ta d, bg, kc, zz_ob d, zz_ol d, pb, pn, yp, ki, le, go, mk, cb, mb, ml, la, ps, pd, pt, kw, kh, kf, kz, ky, zz_th d, pl, md, cr, zz_gc d, zz_lc d, zz_lr d, zz_wh d, zz_od d, zz_tg d, zz_tr d, zz_so d, zz_bd d, wo, be) → wpY_answer post (fr, en, ma, wr, st, lf, cd, ta, bg, kc, ob, ol, pb, pn, yp, ki, le, go, mk, cb, mb, ml, la, ps, pd, pt, kw, kh, kf, kz, ky, th, pl, md, cr, gc, lc, lr, wh, od, tg, tr, so, bd, wo, be) (nI s) (nI n) x3) := by
  obtain ⟨b0, o0, hY0, hX0⟩ := bk_ans_ex h.1 hs hn (A := A)
  rcases bk_ans h.1 hs hn hY0 hX0 with ⟨rfl, rfl⟩ | ⟨r, l1, p, l2, hr, hrs, hA, rfl, rfl⟩
  · -- none holds such a one
    refine ⟨(A, g, ob, ol, gc, lc, lr, gv, th, hc, hg, hi, ib, il, it, qi, qc, ta, wh, od, tg, tr, so, bd, fr, en), dk_mono h (by omega), rh, rfl, ?_, ?_⟩
    · intro lf cd bg pb pn xp fh fl fa mk cb mi mb ml pa kb kl kc co px post hp
      refine xk_findHeld h rh (by omega) hs hn (fun o ho => ?_)
      rcases bk_ans h.1 hs hn hY0 ho with ⟨_, rfl⟩ | ⟨r, l1, p, l2, hr, hrs, hA, e, _⟩
      · exact br_f (by decide) hp
      · have hy := (lk_ring h hr hA).2.1
        exact absurd e.symm (bk_nm1 (by omega))
    · intro lf cd bg kc pb pn yp ki le go mk cb mb ml la ps pd pt kw kh kf kz ky wo be ma wr post hp
      refine ⟨113, yk_answer6 hs (fun b hb => ?_) 113 0 (-1) (by omega) (by omega) bk_best0⟩
      rcases bk_ans h.1 hs hn hb hX0 with ⟨rfl, _⟩ | ⟨r, l1, p, l2, hr, hrs, hA, _, e⟩
      · exact br_f (by decide) hp
      · have h5 := (dk_len h).2 r hr
        rw [hA] at h5
        simp only [List.length_append, List.length_cons] at h5
        exact absurd e.symm (bk_nm1 (by omega))
  · have h5 := (dk_len h).2 r hr
    have hlen : (A (3 + r)).length = l1.length + (l2.length + 1) := by rw [hA]; simp only [List.length_append, List.length_cons]
    obtain ⟨_, hy, t, hpl, ht, hk⟩ := lk_ring h hr hA
    have pw := h.1.2.1 (3 + r) (by omega)
    have cr' : (nI r).toNatClampNeg = r := nI_clamp (by omega)
    have cy : (nI p.2.1).toNatClampNeg = p.2.1 := nI_clamp (by omega)
    have hw := (h.1.1 (3 + r) p (by omega) (by rw [hA]; exact List.mem_append_right l1 List.mem_cons_self)).2.1
    have d5 : nI (r * 5 + l1.length) / 5 = nI r := (pk_div (a := r * 5 + l1.length) (d := 5) (by omega) (by decide) (by decide)).trans (congrArg nI (by omega))
    have e3 : nI (3 + r) - 3 = nI r := (pk_sub (a := 3 + r) (b := 3) (by omega)).trans (congrArg nI (by omega))
    have e5 : nI r * 5 = nI (r * 5) := bn_mul r 5
    -- the two searches end here
    have xo : ∀ {lf cd bg pb pn xp fh fl fa mk cb mi mb ml pa kb kl kc co : Nat → Int32} {px : Int32} (post : SX → Prop), (((md r = 2 → ∃ n46, wX_settle_46 post x3 (nI (r * 5 + l1.length)) (nI r) (nI (r * 5)) n46 (nI (r * 5 + l1.length)) px st lf cd bg gv ob ol pb pn xp fh fl fa mk cb mi mb ml pa kb kl kc th pl md cr hc hg hi ib il it qi qc gc lc lr co)) ∧ (¬ md r = 2 → ∃ n46, wX_settle_46 post x3 (nI (r * 5 + l1.length)) (nI r) (nI (r * 5 + l1.length)) n46 (nI (r * 5 + l1.length)) px st lf cd bg gv ob ol pb pn xp fh fl fa mk cb mi mb ml pa kb kl kc th pl md cr hc hg hi ib il it qi qc gc lc lr co)) → wpX_settle post (px, st, lf, cd, bg, gv, ob, ol, pb, pn, xp, fh, fl, fa, mk, cb, mi, mb, ml, pa, kb, kl, kc, th, pl, md, cr, hc, hg, hi, ib, il, it, qi, qc, gc, lc, lr, co) (nI s) (nI n) x3 := by
      intro lf cd bg pb pn xp fh fl fa mk cb mi mb ml pa kb kl kc co px post hp
      refine xk_findHeld h rh (by omega) hs hn (fun o ho => ?_)
      have eo : o = nI (r * 5 + l1.length) := by
        rcases bk_ans h.1 hs hn hY0 ho with ⟨e, _⟩ | ⟨r', l1', p', l2', hr', hrs', hA', e, eo⟩
        · exact absurd e (bk_nm1 (by omega))
        · have hy' := (lk_ring h hr' hA').2.1
          have ey : p.2.1 = p'.2.1 := (nI_eq (by omega) (by omega)).mp e
          obtain ⟨er, ep⟩ := bk_inj h.1 (L := 3 + r) (M := 3 + r') (by omega) (by omega) (by rw [hA]; exact List.mem_append_right l1 List.mem_cons_self) (by rw [hA']; exact List.mem_append_right l1' List.mem_cons_self) ey
          have er : r = r' := by omega
          subst er
          subst ep
          rw [hA] at pw hA'
          rw [eo, bk_pos (fun p => (od p.2.1).toInt) l1 l1' pw hA']
      rw [eo]
      refine br_t (nI_pos' (by omega)) ⟨by decide, nm_r d5 ⟨pk_in r 16 hr, ?_⟩⟩
      rw [cr', e5]
      exact ⟨fun z => nm_e (hp.1 z), hp.2⟩
    have yo : ∀ {lf cd bg kc pb pn yp ki le go mk cb mb ml la ps pd pt kw kh kf kz ky wo be : Nat → Int32} {ma wr : Int32} (post : SY → Prop), (∃ n129, wY_answer_129 post x3 (nI r) (od p.2.1) n129 (nI p.2.1) 1 fr en ma wr st lf cd ta bg kc ob ol pb pn yp ki le go mk cb mb ml la ps pd pt kw kh kf kz ky th pl md cr gc lc lr wh od tg tr so bd wo be) → wpY_answer post (fr, en, ma, wr, st, lf, cd, ta, bg, kc, ob, ol, pb, pn, yp, ki, le, go, mk, cb, mb, ml, la, ps, pd, pt, kw, kh, kf, kz, ky, th, pl, md, cr, gc, lc, lr, wh, od, tg, tr, so, bd, wo, be) (nI s) (nI n) x3 := by
      intro lf cd bg kc pb pn yp ki le go mk cb mb ml la ps pd pt kw kh kf kz ky wo be ma wr post hp
      refine ⟨113, yk_answer6 hs (fun b hb => ?_) 113 0 (-1) (by omega) (by omega) bk_best0⟩
      have eb : b = nI p.2.1 := by
        rcases bk_ans h.1 hs hn hb hX0 with ⟨_, e⟩ | ⟨r', l1', p', l2', hr', hrs', hA', e, eo⟩
        · exact absurd e (bk_nm1 (by omega))
        · have h5' := (dk_len h).2 r' hr'
          rw [hA'] at h5'
          simp only [List.length_append, List.length_cons] at h5'
          have eo := (nI_eq (by omega) (by omega)).mp eo
          have er : r' = r := by omega
          subst er
          have ll : l1.length = l1'.length := by omega
          have q : l1 ++ p :: l2 = l1' ++ p' :: l2' := by rw [← hA, ← hA']
          obtain ⟨_, q2⟩ := List.append_inj q ll
          injection q2 with q3 q4
          rw [e, q3]
      rw [eb]
      refine br_t (nI_pos' (by omega)) ⟨pk_in _ 112 hy, ?_⟩
      rw [cy, hw]
      exact nm_r e3 ⟨pk_in _ 112 hy, nm_e hp⟩
    have q1 : ∀ z, z ∈ l1 → od z.2.1 < od p.2.1 := by
      intro z hz
      rw [hA, List.pairwise_append] at pw
      exact Int32.lt_iff_toInt_lt.mpr (pw.2.2 z hz p List.mem_cons_self)
    have q2 : ∀ z, z ∈ l2 → ¬ od z.2.1 < od p.2.1 := by
      intro z hz x
      rw [hA, List.pairwise_append, List.pairwise_cons] at pw
      have := pw.2.1.1 z hz
      rw [Int32.lt_iff_toInt_lt] at x
      omega
    by_cases m2 : md r = 2
    · obtain ⟨d, c1, a1, o1, t1, b1, b2, b3, x1, y1⟩ := lk_set2 (ob := ob) (gc := gc) (lc := lc) (hc := hc) (hg := hg) (hi := hi) hr h3 m2 l1.length h hA rfl (by
        intro i z hz
        refine ((rh r hr).2 i z ?_).1
        rw [hA, show l1 ++ p :: l2 = (l1 ++ [p]) ++ l2 by simp, List.getElem?_append_left (bk_lt_of_some hz)]
        exact hz) q1 q2 (by omega)
      have rc := bk_RH_cut rh (dk_len h) (l1 := []) (l2 := l1 ++ [p]) (l3 := l2) hr (by rw [hA]; simp)
      refine ⟨(zz_A d, zz_g d, zz_ob d, zz_ol d, zz_gc d, zz_lc d, zz_lr d, zz_gv d, zz_th d, upd hc r (nI ((A (3 + r)).length - (l1.length + 1))), bk_cut hg (r * 5) 0 (l1.length + 1) (A (3 + r)).length, bk_cut hi (r * 5) 0 (l1.length + 1) (A (3 + r)).length, zz_ib d, zz_il d, zz_it d, zz_qi d, zz_qc d, zz_ta d, zz_wh d, zz_od d, zz_tg d, zz_tr d, zz_so d, zz_bd d, zz_fr d, zz_en d), dk_mono c1 (by omega), ?_, t1, ?_, ?_⟩
      · intro z hz
        have w := rc z hz
        rw [List.length_append, List.length_singleton, List.length_nil] at w
        have e7 : 0 + l2.length = (A (3 + r)).length - (l1.length + 1) := by omega
        rw [e7] at w
        by_cases ez : z = r
        · subst ez
          rw [bk_set_s, List.nil_append] at w
          show _ ∧ ∀ i p, (zz_A d (3 + z))[i]? = some p → _
          rw [a1]
          exact w
        · rw [bk_set_n (show 3 + z ≠ 3 + r by omega)] at w
          show _ ∧ ∀ i p, (zz_A d (3 + z))[i]? = some p → _
          rw [o1 z hz ez]
          exact w
      · intro lf cd bg pb pn xp fh fl fa mk cb mi mb ml pa kb kl kc co px post hp
        refine xo post (br_t m2 ⟨l1.length + 2, x1 post _ _ (by omega) ?_⟩)
        have w := xk_forget (post := fun u => match u with | (px, st, lf, cd, bg, gv, ob, ol, pb, pn, xp, fh, fl, fa, mk, cb, mi, mb, ml, pa, kb, kl, kc, th, pl, md, cr, hc, hg, hi, ib, il, it, qi, qc, gc, lc, lr, co) => post (px, st, lf, cd, bg, gv, ob, ol, pb, pn, xp, fh, fl, fa, mk, cb, mi, mb, ml, pa, kb, kl, kc, th, pl, md, cr, hc, hg, hi, ib, il, it, qi, qc, gc, lc, lr, co)) (r := r) (i := 0) (n := l1.length + 1) (e := (A (3 + r)).length) hr (by omega) (by omega) (hc := zz_hc d) (hg := zz_hg d) (hi := zz_hi d) (by rw [b1]; exact (rh r hr).1) (by omega) (by rw [b1, b2, b3]; exact hp)
        rw [show 0 + (l1.length + 1) - 1 = l1.length by omega] at w
        exact w
      · intro lf cd bg kc pb pn yp ki le go mk cb mb ml la ps pd pt kw kh kf kz ky wo be ma wr post hp
        exact yo post ⟨l1.length + 2, y1 post _ (by omega) hp⟩
    · obtain ⟨d, c1, a1, o1, t1, b1, b2, b3, od1, x1, y1⟩ := lk_set1 (i := l1.length) (ob := ob) (gc := gc) (lc := lc) (hc := hc) (hg := hg) (hi := hi) h (by omega) hr hA (by omega) (by
        refine ((rh r hr).2 l1.length p ?_).1
        rw [hA, List.getElem?_append_right (Nat.le_refl _), Nat.sub_self]
        rfl) h3
      have rc := bk_RH_cut rh (dk_len h) (l1 := l1) (l2 := [p]) (l3 := l2) hr (by rw [hA]; simp)
      refine ⟨(zz_A d, zz_g d, zz_ob d, zz_ol d, zz_gc d, zz_lc d, zz_lr d, zz_gv d, zz_th d, upd hc r (nI ((A (3 + r)).length - 1)), bk_cut hg (r * 5) l1.length 1 (A (3 + r)).length, bk_cut hi (r * 5) l1.length 1 (A (3 + r)).length, zz_ib d, zz_il d, zz_it d, zz_qi d, zz_qc d, zz_ta d, zz_wh d, zz_od d, zz_tg d, zz_tr d, zz_so d, zz_bd d, zz_fr d, zz_en d), dk_mono c1 (by omega), ?_, t1, ?_, ?_⟩
      · intro z hz
        have w := rc z hz
        rw [List.length_singleton] at w
        have e7 : l1.length + l2.length = (A (3 + r)).length - 1 := by omega
        rw [e7] at w
        by_cases ez : z = r
        · subst ez
          rw [bk_set_s] at w
          show _ ∧ ∀ i p, (zz_A d (3 + z))[i]? = some p → _
          rw [a1]
          exact w
        · rw [bk_set_n (show 3 + z ≠ 3 + r by omega)] at w
          show _ ∧ ∀ i p, (zz_A d (3 + z))[i]? = some p → _
          rw [o1 z hz ez]
          exact w
      · intro lf cd bg pb pn xp fh fl fa mk cb mi mb ml pa kb kl kc co px post hp
        refine xo post (br_f m2 ⟨2, x1 post _ _ 1 (nI_nlt (Nat.le_refl _) (by omega)) (br_t (bk_dlt (by omega)) ?_)⟩)
        have w := xk_forget (post := fun u => match u with | (px, st, lf, cd, bg, gv, ob, ol, pb, pn, xp, fh, fl, fa, mk, cb, mi, mb, ml, pa, kb, kl, kc, th, pl, md, cr, hc, hg, hi, ib, il, it, qi, qc, gc, lc, lr, co) => post (px, st, lf, cd, bg, gv, ob, ol, pb, pn, xp, fh, fl, fa, mk, cb, mi, mb, ml, pa, kb, kl, kc, th, pl, md, cr, hc, hg, hi, ib, il, it, qi, qc, gc, lc, lr, co)) (r := r) (i := l1.length) (n := 1) (e := (A (3 + r)).length) hr (by omega) (by omega) (hc := zz_hc d) (hg := zz_hg d) (hi := zz_hi d) (by rw [b1]; exact (rh r hr).1) (by omega) (by rw [b1, b2, b3]; exact hp)
        rw [show l1.length + 1 - 1 = l1.length by omega] at w
        exact w
      · intro lf cd bg kc pb pn yp ki le go mk cb mb ml la ps pd pt kw kh kf kz ky wo be ma wr post hp
        refine yo post ⟨2, y1 post _ 1 ⟨pk_in r 16 hr, ?_⟩⟩
        rw [cr']
        exact br_f m2 (br_t bk_m1lt (br_t rfl hp))
end SETTLE
