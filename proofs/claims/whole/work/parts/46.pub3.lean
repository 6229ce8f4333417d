section PUB3
variable {B : Nat} {A : Nat → List bk_E} {g : Nat → Nat} {st lf cd bg gv ob ol pb pn xp fh fl fa mk cb mi mb ml pa kb kl kc th pl md cr hc hg hi ib il it qi qc gc lc lr co ta yp ki le go la ps pd pt kw kh kf kz ky wh od tg tr so bd wo be : Nat → Int32} {px fr en ma wr : Int32}
theorem xk_isP0 {post : Int32 → Prop} {x : Int32} (h : x < 0 ∨ nI 6 ≤ x) (hp : post 0) : wpX_isPlace post (px, st, lf, cd, bg, gv, ob, ol, pb, pn, xp, fh, fl, fa, mk, cb, mi, mb, ml, pa, kb, kl, kc, th, pl, md, cr, hc, hg, hi, ib, il, it, qi, qc, gc, lc, lr, co) x := by
  refine br_c (fun _ => hp) (fun n => br_t ?_ hp)
  rcases h with h | h
  · exact absurd h n
  · exact h
theorem xk_isQ0 {post : Int32 → Prop} {x : Int32} (h : x < 0 ∨ nI 3 ≤ x) (hp : post 0) : wpX_isQueue post (px, st, lf, cd, bg, gv, ob, ol, pb, pn, xp, fh, fl, fa, mk, cb, mi, mb, ml, pa, kb, kl, kc, th, pl, md, cr, hc, hg, hi, ib, il, it, qi, qc, gc, lc, lr, co) x := by
  refine br_c (fun _ => hp) (fun n => br_t ?_ hp)
  rcases h with h | h
  · exact absurd h n
  · exact h
theorem lk_ready (h : bk_C B A g st ol th pl md cr lr gv ib il it qi qc ta wh od tg tr so bd fr en) (rh : bk_RH A hi hg hc) {t n : Nat} (ht : t < 6) (hn : n ≤ 16) : ∀ (N c : Nat), N ≤ 16 → c + N ≤ 16 → ∃ r : Int32,
    (∀ (post : Int32 → Prop) (f : Nat), N < f → post r → wX_ready_26 post (nI t) (nI n) px st lf cd bg gv ob ol pb pn xp fh fl fa mk cb mi mb ml pa kb kl kc th pl md cr hc hg hi ib il it qi qc gc lc lr co f (nI c) (nI (16 - N))) ∧
    (∀ (post : Int32 → Prop) (f : Nat), N < f → post r → wY_ready_27 post (nI t) (nI n) fr en ma wr st lf cd ta bg kc ob ol pb pn yp ki le go mk cb mb ml la ps pd pt kw kh kf kz ky th pl md cr gc lc lr wh od tg tr so bd wo be f (nI c) (nI (16 - N))) := by
  intro N
  induction N with
  | zero =>
    intro c _ _
    refine ⟨nI c, ?_, ?_⟩
    · intro post f hf hp
      obtain ⟨f, rfl⟩ : ∃ f', f = f' + 1 := ⟨f - 1, by omega⟩
      exact br_t (by decide) hp
    · intro post f hf hp
      obtain ⟨f, rfl⟩ : ∃ f', f = f' + 1 := ⟨f - 1, by omega⟩
      exact br_t (by decide) hp
  | succ N ih =>
    intro c hN hc16
    have e : 16 - N = 16 - (N + 1) + 1 := by omega
    have nle : ¬ (16 : Int32) ≤ nI (16 - (N + 1)) := nI_ge (b := 16) (by omega) (by omega)
    by_cases can : bk_Can A st ol th pl md cr (16 - (N + 1)) t n
    · obtain ⟨r, x1, y1⟩ := ih (c + 1) (by omega) (by omega)
      rw [e] at x1 y1
      refine ⟨r, ?_, ?_⟩
      · intro post f hf hp
        obtain ⟨f, rfl⟩ : ∃ f', f = f' + 1 := ⟨f - 1, by omega⟩
        exact br_f nle (xk_canTake h rh (by omega) ht (by omega) (fun _ => br_f (by decide) (nm_r (nI_1 c) (nm_r (nI_1 _) (x1 post f (by omega) hp)))) (fun q => absurd can q))
      · intro post f hf hp
        obtain ⟨f, rfl⟩ : ∃ f', f = f' + 1 := ⟨f - 1, by omega⟩
        exact br_f nle (yk_can h (by omega) ht (by omega) (fun _ => br_f (by decide) (nm_r (nI_1 c) (nm_r (nI_1 _) (y1 post f (by omega) hp)))) (fun q => absurd can q))
    · obtain ⟨r, x1, y1⟩ := ih c (by omega) (by omega)
      rw [e] at x1 y1
      refine ⟨r, ?_, ?_⟩
      · intro post f hf hp
        obtain ⟨f, rfl⟩ : ∃ f', f = f' + 1 := ⟨f - 1, by omega⟩
        exact br_f nle (xk_canTake h rh (by omega) ht (by omega) (fun q => absurd q can) (fun _ => br_t rfl (nm_r (nI_1 _) (x1 post f (by omega) hp))))
      · intro post f hf hp
        obtain ⟨f, rfl⟩ : ∃ f', f = f' + 1 := ⟨f - 1, by omega⟩
        exact br_f nle (yk_can h (by omega) ht (by omega) (fun q => absurd q can) (fun _ => br_t rfl (nm_r (nI_1 _) (y1 post f (by omega) hp))))
/-- Y goes from item to item -/
theorem yk_item24 {post : Int32 → Prop} {t i : Nat} {x3 : Int32} (h : bk_C B A g st ol th pl md cr lr gv ib il it qi qc ta wh od tg tr so bd fr en) (ht : t < 3) (hi2 : i < 2 ^ 31) (h1 : ∀ p, (A t)[i]? = some p → wY_item_55 post x3 (nI p.2.1) fr en ma wr st lf cd ta bg kc ob ol pb pn yp ki le go mk cb mb ml la ps pd pt kw kh kf kz ky th pl md cr gc lc lr wh od tg tr so bd wo be) (h0 : (A t).length ≤ i → wY_item_55 post x3 (-1) fr en ma wr st lf cd ta bg kc ob ol pb pn yp ki le go mk cb mb ml la ps pd pt kw kh kf kz ky th pl md cr gc lc lr wh od tg tr so bd wo be) :
    ∀ (f : Nat) (l1 l2 : List bk_E) (b : Int32), A t = l1 ++ l2 → l1.length ≤ i → l2.length < f → ((l2 = [] ∧ b = -1) ∨ ∃ p l, l2 = p :: l ∧ b = nI p.2.1) → wY_item_24 post (nI t) (nI i) x3 fr en ma wr st lf cd ta bg kc ob ol pb pn yp ki le go mk cb mb ml la ps pd pt kw kh kf kz ky th pl md cr gc lc lr wh od tg tr so bd wo be f b (nI l1.length)
  | 0, l1, l2, b, _, _, hf, _ => by omega
  | f + 1, l1, l2, b, hA, hl, hf, hb => by
    have h8 := (dk_len h).1 t ht
    have hlen : (A t).length = l1.length + l2.length := by rw [hA, List.length_append]
    rcases hb with ⟨e, rfl⟩ | ⟨p, l, e, rfl⟩
    · subst e
      rw [List.length_nil] at hlen
      exact br_c (fun _ => h0 (by omega)) (fun _ => br_t bk_m1lt (h0 (by omega)))
    · subst e
      have hp : p ∈ A t := by rw [hA]; exact List.mem_append_right l1 List.mem_cons_self
      have c0 := h.1.1 t p (by omega) hp
      have cy : (nI p.2.1).toNatClampNeg = p.2.1 := nI_clamp (by omega)
      refine pk_le i l1.length (fun g => h1 p ?_) (fun g => br_f (nI_pos (by omega)) ⟨vp_in_nI c0.1 (by omega), ?_⟩)
      · have : i = l1.length := by omega
        rw [this, hA, List.getElem?_append_right (Nat.le_refl _), Nat.sub_self]
        rfl
      · rw [cy]
        have pw := h.1.2.1 t (by omega)
        rw [hA, List.pairwise_append, List.pairwise_cons] at pw
        refine yk_after (fun b hb => nm_r (nI_1 _) ?_)
        have w := bk_after h.1 (L := t) (by omega) (T := od p.2.1) (l1 := l1 ++ [p]) (l2 := l) (by rw [hA]; simp) (fun q hq => by
          rcases List.mem_append.mp hq with z | z
          · have := pw.2.2 q z p List.mem_cons_self; omega
          · rw [List.mem_singleton] at z; rw [z]; exact Int.le_refl _) (fun q hq => pw.2.1.1 q hq) hb
        have z := yk_item24 h ht hi2 h1 h0 f (l1 ++ [p]) l b (by rw [hA]; simp) (by rw [List.length_append, List.length_singleton]; omega) (by rw [List.length_cons] at hf; omega) w
        rw [List.length_append, List.length_singleton] at z
        exact z
end PUB3
theorem i_vc_ready {k : Nat} {u : SX} {v : SY} (I : i_Rel k u v) (hk : k + 5 ≤ 2560) (v1 : Int32) (v2 : Int32) : wpX_ready (fun r => wpY_ready (fun r' => r' = r ∧ i_Rel (k + 5) u v) v v1 v2) u v1 v2 := by
  obtain ⟨A, g, px, st, lf, cd, bg, gv, ob, ol, pb, pn, xp, fh, fl, fa, mk, cb, mi, mb, ml, pa, kb, kl, kc, th, pl, md, cr, hc, hg, hi, ib, il, it, qi, qc, gc, lc, lr, co, fr, en, ma, wr, ta, yp, ki, le, go, la, ps, pd, pt, kw, kh, kf, kz, ky, wh, od, tg, tr, so, bd, wo, be, rfl, rfl, h⟩ := I
  have same : i_Rel (k + 5) (px, st, lf, cd, bg, gv, ob, ol, pb, pn, xp, fh, fl, fa, mk, cb, mi, mb, ml, pa, kb, kl, kc, th, pl, md, cr, hc, hg, hi, ib, il, it, qi, qc, gc, lc, lr, co) (fr, en, ma, wr, st, lf, cd, ta, bg, kc, ob, ol, pb, pn, yp, ki, le, go, mk, cb, mb, ml, la, ps, pd, pt, kw, kh, kf, kz, ky, th, pl, md, cr, gc, lc, lr, wh, od, tg, tr, so, bd, wo, be) := ⟨A, g, px, st, lf, cd, bg, gv, ob, ol, pb, pn, xp, fh, fl, fa, mk, cb, mi, mb, ml, pa, kb, kl, kc, th, pl, md, cr, hc, hg, hi, ib, il, it, qi, qc, gc, lc, lr, co, fr, en, ma, wr, ta, yp, ki, le, go, la, ps, pd, pt, kw, kh, kf, kz, ky, wh, od, tg, tr, so, bd, wo, be, rfl, rfl, bk_S_mono h (by omega)⟩
  unfold wpX_ready
  rcases pk_ix v1 (n := 6) (by omega) with a | a | ⟨t, ht, rfl⟩
  · refine xk_isP0 (Or.inl a) (br_t rfl ?_)
    unfold wpY_ready
    exact yk_in0 (N := 6) (Or.inl a) (br_t rfl ⟨rfl, same⟩)
  · refine xk_isP0 (Or.inr a) (br_t rfl ?_)
    unfold wpY_ready
    exact yk_in0 (N := 6) (Or.inr a) (br_t rfl ⟨rfl, same⟩)
  · refine xk_isPlace (by omega) (fun _ => br_f (by decide) ?_) (fun q => by omega)
    rcases iv_x (x := v2) (K := 16) (by omega) with bad | ⟨n, hn1, hn16, rfl⟩
    · have yb : wpY_ready (fun r' => r' = -1 ∧ i_Rel (k + 5) (px, st, lf, cd, bg, gv, ob, ol, pb, pn, xp, fh, fl, fa, mk, cb, mi, mb, ml, pa, kb, kl, kc, th, pl, md, cr, hc, hg, hi, ib, il, it, qi, qc, gc, lc, lr, co) (fr, en, ma, wr, st, lf, cd, ta, bg, kc, ob, ol, pb, pn, yp, ki, le, go, mk, cb, mb, ml, la, ps, pd, pt, kw, kh, kf, kz, ky, th, pl, md, cr, gc, lc, lr, wh, od, tg, tr, so, bd, wo, be)) (fr, en, ma, wr, st, lf, cd, ta, bg, kc, ob, ol, pb, pn, yp, ki, le, go, mk, cb, mb, ml, la, ps, pd, pt, kw, kh, kf, kz, ky, th, pl, md, cr, gc, lc, lr, wh, od, tg, tr, so, bd, wo, be) (nI t) v2 := by
        unfold wpY_ready
        exact yk_in1 (N := 6) ht (by omega) (br_f (by decide) (yk_in0 (N := 16) (iv_n (by omega) bad) (br_t rfl ⟨rfl, same⟩)))
      refine br_c (fun _ => yb) (fun q => br_f ?_ yb)
      rcases bad with w | w
      · exact absurd w q
      · exact Int32.not_le.mpr w
    · have e1 : nI n - 1 = nI (n - 1) := pk_sub (a := n) (b := 1) hn1
      obtain ⟨r, x1, y1⟩ := lk_ready (px := px) (st := st) (lf := lf) (cd := cd) (bg := bg) (gv := gv) (ob := ob) (ol := ol) (pb := pb) (pn := pn) (xp := xp) (fh := fh) (fl := fl) (fa := fa) (mk := mk) (cb := cb) (mi := mi) (mb := mb) (ml := ml) (pa := pa) (kb := kb) (kl := kl) (kc := kc) (th := th) (pl := pl) (md := md) (cr := cr) (hc := hc) (hg := hg) (hi := hi) (ib := ib) (il := il) (it := it) (qi := qi) (qc := qc) (gc := gc) (lc := lc) (lr := lr) (co := co) (fr := fr) (en := en) (ma := ma) (wr := wr) (ta := ta) (yp := yp) (ki := ki) (le := le) (go := go) (la := la) (ps := ps) (pd := pd) (pt := pt) (kw := kw) (kh := kh) (kf := kf) (kz := kz) (ky := ky) (wh := wh) (od := od) (tg := tg) (tr := tr) (so := so) (bd := bd) (wo := wo) (be := be) h.1.1 h.1.2.1 ht hn16 16 0 (by omega) (by omega)
      refine br_f (nI_nlt (b := 1) hn1 (by omega)) (br_t (nI_le (b := 16) hn16 (by omega)) ⟨17, x1 _ 17 (by omega) ?_⟩)
      unfold wpY_ready
      refine yk_in1 (N := 6) ht (by omega) (br_f (by decide) ?_)
      rw [e1]
      exact yk_in1 (N := 16) (by omega) (by omega) (br_f (by decide) ⟨17, y1 _ 17 (by omega) ⟨rfl, same⟩⟩)
theorem i_vc_item {k : Nat} {u : SX} {v : SY} (I : i_Rel k u v) (hk : k + 5 ≤ 2560) (v1 : Int32) (v2 : Int32) (v3 : Int32) : wpX_item (fun r => wpY_item (fun r' => r' = r ∧ i_Rel (k + 5) u v) v v1 v2 v3) u v1 v2 v3 := by
  obtain ⟨A, g, px, st, lf, cd, bg, gv, ob, ol, pb, pn, xp, fh, fl, fa, mk, cb, mi, mb, ml, pa, kb, kl, kc, th, pl, md, cr, hc, hg, hi, ib, il, it, qi, qc, gc, lc, lr, co, fr, en, ma, wr, ta, yp, ki, le, go, la, ps, pd, pt, kw, kh, kf, kz, ky, wh, od, tg, tr, so, bd, wo, be, rfl, rfl, h⟩ := I
  have same : i_Rel (k + 5) (px, st, lf, cd, bg, gv, ob, ol, pb, pn, xp, fh, fl, fa, mk, cb, mi, mb, ml, pa, kb, kl, kc, th, pl, md, cr, hc, hg, hi, ib, il, it, qi, qc, gc, lc, lr, co) (fr, en, ma, wr, st, lf, cd, ta, bg, kc, ob, ol, pb, pn, yp, ki, le, go, mk, cb, mb, ml, la, ps, pd, pt, kw, kh, kf, kz, ky, th, pl, md, cr, gc, lc, lr, wh, od, tg, tr, so, bd, wo, be) := ⟨A, g, px, st, lf, cd, bg, gv, ob, ol, pb, pn, xp, fh, fl, fa, mk, cb, mi, mb, ml, pa, kb, kl, kc, th, pl, md, cr, hc, hg, hi, ib, il, it, qi, qc, gc, lc, lr, co, fr, en, ma, wr, ta, yp, ki, le, go, la, ps, pd, pt, kw, kh, kf, kz, ky, wh, od, tg, tr, so, bd, wo, be, rfl, rfl, bk_S_mono h (by omega)⟩
  unfold wpX_item
  rcases pk_ix v1 (n := 3) (by omega) with a | a | ⟨t, ht, rfl⟩
  · refine xk_isQ0 (Or.inl a) (br_t rfl ?_)
    unfold wpY_item
    exact yk_in0 (N := 3) (Or.inl a) (br_t rfl ⟨rfl, same⟩)
  · refine xk_isQ0 (Or.inr a) (br_t rfl ?_)
    unfold wpY_item
    exact yk_in0 (N := 3) (Or.inr a) (br_t rfl ⟨rfl, same⟩)
  · have ct : (nI t).toNatClampNeg = t := nI_clamp (by omega)
    have i3 : vp_in (nI t) 3 := pk_in t 3 ht
    have hq := h.1.1.2.1 t ht
    have h8 := (dk_len h.1.1).1 t ht
    refine br_f (nI_pos (by omega)) (br_f (nI_ge (b := 3) ht (by omega)) (br_f (by decide) ?_))
    by_cases neg : v2 < 0
    · refine br_t neg ?_
      unfold wpY_item
      exact yk_in1 (N := 3) ht (by omega) (br_f (by decide) (br_f (Int32.not_le.mpr neg) ⟨rfl, same⟩))
    · obtain ⟨i, hii, rfl⟩ := nI_of neg
      refine br_f neg ⟨i3, ?_⟩
      rw [ct, hq.1]
      -- Y's walk, given what it finds
      have yw : ∀ (post : Int32 → Prop), (∀ p, (A t)[i]? = some p → wY_item_55 post v3 (nI p.2.1) fr en ma wr st lf cd ta bg kc ob ol pb pn yp ki le go mk cb mb ml la ps pd pt kw kh kf kz ky th pl md cr gc lc lr wh od tg tr so bd wo be) → ((A t).length ≤ i → wY_item_55 post v3 (-1) fr en ma wr st lf cd ta bg kc ob ol pb pn yp ki le go mk cb mb ml la ps pd pt kw kh kf kz ky th pl md cr gc lc lr wh od tg tr so bd wo be) → wpY_item post (fr, en, ma, wr, st, lf, cd, ta, bg, kc, ob, ol, pb, pn, yp, ki, le, go, mk, cb, mb, ml, la, ps, pd, pt, kw, kh, kf, kz, ky, th, pl, md, cr, gc, lc, lr, wh, od, tg, tr, so, bd, wo, be) (nI t) (nI i) v3 := by
        intro post g1 g0
        unfold wpY_item
        · refine yk_in1 (N := 3) ht (by omega) (br_f (by decide) (br_t (nI_pos' hii) (yk_firstAt h.1.1 (by omega) (by omega) (fun e => ⟨9, ?_⟩) (fun p l e => ⟨9, ?_⟩))))
          · exact yk_item24 h.1.1 ht hii g1 g0 9 [] (A t) (-1) rfl (by simp) (by omega) (Or.inl ⟨e, rfl⟩)
          · exact yk_item24 h.1.1 ht hii g1 g0 9 [] (A t) (nI p.2.1) rfl (by simp) (by omega) (Or.inr ⟨p, l, e, rfl⟩)
      refine pk_lt i (A t).length (fun g => ?_) (fun g => ?_)
      · have hp : (A t)[i]? = some ((A t)[i]) := List.getElem?_eq_some_iff.mpr ⟨g, rfl⟩
        generalize (A t)[i] = p at hp
        have hpm : p ∈ A t := List.mem_of_getElem? hp
        have qi' := hq.2 i p hp
        rcases (h.1.1.1.1 t p (by omega) hpm).2.2.1 with ⟨_, q, n, tt, o1, o2, o3, o4, o5, o6, o7, o8, o9, o10⟩ | ⟨x, _⟩
        rotate_left
        · exact absurd (Or.inl ht) x
        have hy := (h.1.1.1.1 t p (by omega) hpm).1
        have e1 : nI t * 8 + nI i = nI (t * 8 + i) := by rw [bn_mul, nI_add]
        have c1 : (nI (t * 8 + i)).toNatClampNeg = t * 8 + i := nI_clamp (by omega)
        have cq : (nI q).toNatClampNeg = q := nI_clamp (by omega)
        have cy : (nI p.2.1).toNatClampNeg = p.2.1 := nI_clamp (by omega)
        have yw1 : ∀ (post : Int32 → Prop), wY_item_55 post v3 (nI p.2.1) fr en ma wr st lf cd ta bg kc ob ol pb pn yp ki le go mk cb mb ml la ps pd pt kw kh kf kz ky th pl md cr gc lc lr wh od tg tr so bd wo be → wpY_item post (fr, en, ma, wr, st, lf, cd, ta, bg, kc, ob, ol, pb, pn, yp, ki, le, go, mk, cb, mb, ml, la, ps, pd, pt, kw, kh, kf, kz, ky, th, pl, md, cr, gc, lc, lr, wh, od, tg, tr, so, bd, wo, be) (nI t) (nI i) v3 := fun post w => yw post (fun p' hp' => by
          rw [hp] at hp'
          cases hp'
          exact w) (fun z => by omega)
        rw [e1, c1, qi', o2]
        refine ⟨vp_in_nI (by omega) (by omega), nm_e ?_⟩
        rw [cq, o6]
        rcases pk_ix v3 (n := n) (by omega) with q3 | q3 | ⟨j, hj, rfl⟩
        · refine br_t q3 (yw1 _ (br_f (nI_pos (by omega)) ⟨vp_in_nI hy (by omega), ?_⟩))
          rw [cy, o7]
          exact yk_in0 (Or.inl q3) (br_t rfl ⟨rfl, same⟩)
        · have yb : wpY_item (fun r' => r' = -1 ∧ i_Rel (k + 5) (px, st, lf, cd, bg, gv, ob, ol, pb, pn, xp, fh, fl, fa, mk, cb, mi, mb, ml, pa, kb, kl, kc, th, pl, md, cr, hc, hg, hi, ib, il, it, qi, qc, gc, lc, lr, co) (fr, en, ma, wr, st, lf, cd, ta, bg, kc, ob, ol, pb, pn, yp, ki, le, go, mk, cb, mb, ml, la, ps, pd, pt, kw, kh, kf, kz, ky, th, pl, md, cr, gc, lc, lr, wh, od, tg, tr, so, bd, wo, be)) (fr, en, ma, wr, st, lf, cd, ta, bg, kc, ob, ol, pb, pn, yp, ki, le, go, mk, cb, mb, ml, la, ps, pd, pt, kw, kh, kf, kz, ky, th, pl, md, cr, gc, lc, lr, wh, od, tg, tr, so, bd, wo, be) (nI t) (nI i) v3 := yw1 _ (br_f (nI_pos (by omega)) ⟨vp_in_nI hy (by omega), by
            rw [cy, o7]
            exact yk_in0 (Or.inr q3) (br_t rfl ⟨rfl, same⟩)⟩)
          exact br_c (fun _ => yb) (fun _ => ⟨vp_in_nI (by omega) (by omega), br_f (Int32.not_lt.mpr q3) yb⟩)
        · have e2 : nI q * 16 + nI j = nI (q * 16 + j) := by rw [bn_mul, nI_add]
          have c2 : (nI (q * 16 + j)).toNatClampNeg = q * 16 + j := nI_clamp (by omega)
          have e3 : 16 * nI p.2.1 + nI j = nI (16 * p.2.1 + j) := by rw [bn_mul2, nI_add]
          have c3 : (nI (16 * p.2.1 + j)).toNatClampNeg = 16 * p.2.1 + j := nI_clamp (by omega)
          refine br_f (nI_pos (by omega)) ⟨vp_in_nI (by omega) (by omega), br_t (nI_lt hj (by omega)) ?_⟩
          rw [e2, c2]
          refine ⟨vp_in_nI (by omega) (by omega), yw1 _ (br_f (nI_pos (by omega)) ⟨vp_in_nI hy (by omega), ?_⟩)⟩
          rw [cy, o7]
          refine yk_in1 hj (by omega) (br_f (by decide) ?_)
          rw [e3, c3]
          exact ⟨vp_in_nI (by omega) (by omega), (o10 j hj).symm, same⟩
      · exact yw _ (fun p hp => by have := bk_lt_of_some hp; omega) (fun _ => br_t bk_m1lt ⟨rfl, same⟩)
