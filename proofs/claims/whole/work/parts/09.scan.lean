/-! scans of the items -/
section SCAN
variable {B : Nat} {A : Nat → List bk_E} {g : Nat → Nat} {st lf cd bg gv ob ol pb pn xp fh fl fa mk cb mi mb ml pa kb kl kc th pl md cr hc hg hi ib il it qi qc gc lc lr co ta yp ki le go la ps pd pt kw kh kf kz ky wh od tg tr so bd wo be : Nat → Int32} {px fr en ma wr : Int32}
theorem yk_count4 {post : Int32 → Prop} {x1 : Int32} (hp : post (nI (bk_cnt wh x1 112))) : ∀ f i c : Nat, i ≤ 112 → 112 - i < f → c = bk_cnt wh x1 i → wY_count_4 post x1 fr en ma wr st lf cd ta bg kc ob ol pb pn yp ki le go mk cb mb ml la ps pd pt kw kh kf kz ky th pl md cr gc lc lr wh od tg tr so bd wo be f (nI c) (nI i)
  | 0, i, c, h1, h2, _ => by omega
  | f + 1, i, c, h1, h2, hc => by
    have cl : (nI i).toNatClampNeg = i := nI_clamp (by omega)
    have le := bk_cnt_le wh x1 i
    refine pk_le 112 i (fun h => ?_) (fun h => ⟨pk_in i 112 h, ?_⟩)
    · have e : i = 112 := by omega
      subst e
      rw [hc]
      exact hp
    · rw [cl]
      by_cases e : wh i = x1
      · refine br_t e (nm_r (nI_1 c) (nm_r (nI_1 i) (yk_count4 hp f (i + 1) (c + 1) (by omega) (by omega) ?_)))
        rw [hc]
        show bk_cnt wh x1 i + 1 = bk_cnt wh x1 i + (if wh i = x1 then 1 else 0)
        rw [if_pos e]
      · refine br_f e (nm_r (nI_1 i) (yk_count4 hp f (i + 1) c (by omega) (by omega) ?_))
        rw [hc, bk_cnt, if_neg e]
        rfl
theorem yk_count {post : Int32 → Prop} {x1 : Int32} (hp : post (nI (bk_cnt wh x1 112))) : wpY_count post (fr, en, ma, wr, st, lf, cd, ta, bg, kc, ob, ol, pb, pn, yp, ki, le, go, mk, cb, mb, ml, la, ps, pd, pt, kw, kh, kf, kz, ky, th, pl, md, cr, gc, lc, lr, wh, od, tg, tr, so, bd, wo, be) x1 :=
  ⟨113, yk_count4 hp 113 0 0 (by omega) (by omega) rfl⟩
theorem yk_after5 {post : Int32 → Prop} {x1 x2 : Int32} (hp : ∀ b, bk_Best (fun j => wh j = x1 ∧ x2 < od j) (fun j => (od j).toInt) 112 b → post b) :
    ∀ (f i : Nat) (b : Int32), i ≤ 112 → 112 - i < f → bk_Best (fun j => wh j = x1 ∧ x2 < od j) (fun j => (od j).toInt) i b → wY_after_5 post x1 x2 fr en ma wr st lf cd ta bg kc ob ol pb pn yp ki le go mk cb mb ml la ps pd pt kw kh kf kz ky th pl md cr gc lc lr wh od tg tr so bd wo be f b (nI i)
  | 0, i, b, h1, h2, _ => by omega
  | f + 1, i, b, h1, h2, hb => by
    have cl : (nI i).toNatClampNeg = i := nI_clamp (by omega)
    refine pk_le 112 i (fun h => ?_) (fun h => ⟨pk_in i 112 h, ?_⟩)
    · have e : i = 112 := by omega
      subst e
      exact hp b hb
    · rw [cl]
      by_cases e : wh i = x1
      · refine br_t e ⟨pk_in i 112 h, ?_⟩
        by_cases o : od i ≤ x2
        · exact br_t o (nm_r (nI_1 i) (yk_after5 hp f (i + 1) b (by omega) (by omega) (bk_best_no hb (fun z => Int32.not_lt.mpr o z.2))))
        · have o' : x2 < od i := Int32.not_le.mp o
          refine br_f o ?_
          by_cases n : b < 0
          · exact br_t n (nm_r (nI_1 i) (yk_after5 hp f (i + 1) (nI i) (by omega) (by omega) (bk_best_new (by omega) hb ⟨e, o'⟩ n)))
          · obtain ⟨c, hc, rfl⟩ := bk_best_at hb n
            refine br_f n ⟨pk_in i 112 h, pk_in c 112 (by omega), ?_⟩
            rw [nI_clamp (show c < 2 ^ 31 by omega)]
            by_cases q : od c ≤ od i
            · exact br_t q (nm_r (nI_1 i) (yk_after5 hp f (i + 1) (nI c) (by omega) (by omega) (bk_best_ge (by omega) hc hb (Int32.le_iff_toInt_le.mp q))))
            · exact br_f q (nm_r (nI_1 i) (yk_after5 hp f (i + 1) (nI i) (by omega) (by omega) (bk_best_lt (by omega) hc hb ⟨e, o'⟩ (Int32.lt_iff_toInt_lt.mp (Int32.not_le.mp q)))))
      · exact br_f e (nm_r (nI_1 i) (yk_after5 hp f (i + 1) b (by omega) (by omega) (bk_best_no hb (fun z => e z.1))))
theorem yk_after {post : Int32 → Prop} {x1 x2 : Int32} (hp : ∀ b, bk_Best (fun j => wh j = x1 ∧ x2 < od j) (fun j => (od j).toInt) 112 b → post b) : wpY_after post (fr, en, ma, wr, st, lf, cd, ta, bg, kc, ob, ol, pb, pn, yp, ki, le, go, mk, cb, mb, ml, la, ps, pd, pt, kw, kh, kf, kz, ky, th, pl, md, cr, gc, lc, lr, wh, od, tg, tr, so, bd, wo, be) x1 x2 :=
  ⟨113, yk_after5 hp 113 0 (-1) (by omega) (by omega) bk_best0⟩
theorem yk_newest4 {post : Int32 → Prop} {x1 : Int32} (hp : ∀ b, bk_Best (fun j => wh j = 3 + x1) (fun j => - (od j).toInt) 112 b → post b) :
    ∀ (f i : Nat) (b : Int32), i ≤ 112 → 112 - i < f → bk_Best (fun j => wh j = 3 + x1) (fun j => - (od j).toInt) i b → wY_newest_4 post x1 fr en ma wr st lf cd ta bg kc ob ol pb pn yp ki le go mk cb mb ml la ps pd pt kw kh kf kz ky th pl md cr gc lc lr wh od tg tr so bd wo be f b (nI i)
  | 0, i, b, h1, h2, _ => by omega
  | f + 1, i, b, h1, h2, hb => by
    have cl : (nI i).toNatClampNeg = i := nI_clamp (by omega)
    refine pk_le 112 i (fun h => ?_) (fun h => ⟨pk_in i 112 h, ?_⟩)
    · have e : i = 112 := by omega
      subst e
      exact hp b hb
    · rw [cl]
      by_cases e : wh i = 3 + x1
      · refine br_t e ?_
        by_cases n : b < 0
        · exact br_t n (nm_r (nI_1 i) (yk_newest4 hp f (i + 1) (nI i) (by omega) (by omega) (bk_best_new (by omega) hb e n)))
        · obtain ⟨c, hc, rfl⟩ := bk_best_at hb n
          refine br_f n ⟨pk_in i 112 h, pk_in c 112 (by omega), ?_⟩
          rw [nI_clamp (show c < 2 ^ 31 by omega)]
          by_cases q : od i ≤ od c
          · exact br_t q (nm_r (nI_1 i) (yk_newest4 hp f (i + 1) (nI c) (by omega) (by omega) (bk_best_ge (by omega) hc hb (by have := Int32.le_iff_toInt_le.mp q; omega))))
          · exact br_f q (nm_r (nI_1 i) (yk_newest4 hp f (i + 1) (nI i) (by omega) (by omega) (bk_best_lt (by omega) hc hb e (by have := Int32.lt_iff_toInt_lt.mp (Int32.not_le.mp q); omega))))
      · exact br_f e (nm_r (nI_1 i) (yk_newest4 hp f (i + 1) b (by omega) (by omega) (bk_best_no hb e)))
theorem yk_newest {post : Int32 → Prop} {x1 : Int32} (hp : ∀ b, bk_Best (fun j => wh j = 3 + x1) (fun j => - (od j).toInt) 112 b → post b) : wpY_newest post (fr, en, ma, wr, st, lf, cd, ta, bg, kc, ob, ol, pb, pn, yp, ki, le, go, mk, cb, mb, ml, la, ps, pd, pt, kw, kh, kf, kz, ky, th, pl, md, cr, gc, lc, lr, wh, od, tg, tr, so, bd, wo, be) x1 :=
  ⟨113, yk_newest4 hp 113 0 (-1) (by omega) (by omega) bk_best0⟩
theorem yk_below5 {post : Int32 → Prop} {x1 x2 : Int32} (hp : ∀ b, bk_Best (fun j => wh j = 3 + x1 ∧ od j < x2) (fun j => - (od j).toInt) 112 b → post b) :
    ∀ (f i : Nat) (b : Int32), i ≤ 112 → 112 - i < f → bk_Best (fun j => wh j = 3 + x1 ∧ od j < x2) (fun j => - (od j).toInt) i b → wY_below_5 post x1 x2 fr en ma wr st lf cd ta bg kc ob ol pb pn yp ki le go mk cb mb ml la ps pd pt kw kh kf kz ky th pl md cr gc lc lr wh od tg tr so bd wo be f b (nI i)
  | 0, i, b, h1, h2, _ => by omega
  | f + 1, i, b, h1, h2, hb => by
    have cl : (nI i).toNatClampNeg = i := nI_clamp (by omega)
    refine pk_le 112 i (fun h => ?_) (fun h => ⟨pk_in i 112 h, ?_⟩)
    · have e : i = 112 := by omega
      subst e
      exact hp b hb
    · rw [cl]
      by_cases e : wh i = 3 + x1
      · refine br_t e ⟨pk_in i 112 h, ?_⟩
        by_cases o : x2 ≤ od i
        · exact br_t o (nm_r (nI_1 i) (yk_below5 hp f (i + 1) b (by omega) (by omega) (bk_best_no hb (fun z => Int32.not_lt.mpr o z.2))))
        · have o' : od i < x2 := Int32.not_le.mp o
          refine br_f o ?_
          by_cases n : b < 0
          · exact br_t n (nm_r (nI_1 i) (yk_below5 hp f (i + 1) (nI i) (by omega) (by omega) (bk_best_new (by omega) hb ⟨e, o'⟩ n)))
          · obtain ⟨c, hc, rfl⟩ := bk_best_at hb n
            refine br_f n ⟨pk_in i 112 h, pk_in c 112 (by omega), ?_⟩
            rw [nI_clamp (show c < 2 ^ 31 by omega)]
            by_cases q : od i ≤ od c
            · exact br_t q (nm_r (nI_1 i) (yk_below5 hp f (i + 1) (nI c) (by omega) (by omega) (bk_best_ge (by omega) hc hb (by have := Int32.le_iff_toInt_le.mp q; omega))))
            · exact br_f q (nm_r (nI_1 i) (yk_below5 hp f (i + 1) (nI i) (by omega) (by omega) (bk_best_lt (by omega) hc hb ⟨e, o'⟩ (by have := Int32.lt_iff_toInt_lt.mp (Int32.not_le.mp q); omega))))
      · exact br_f e (nm_r (nI_1 i) (yk_below5 hp f (i + 1) b (by omega) (by omega) (bk_best_no hb (fun z => e z.1))))
theorem yk_below {post : Int32 → Prop} {x1 x2 : Int32} (hp : ∀ b, bk_Best (fun j => wh j = 3 + x1 ∧ od j < x2) (fun j => - (od j).toInt) 112 b → post b) : wpY_below post (fr, en, ma, wr, st, lf, cd, ta, bg, kc, ob, ol, pb, pn, yp, ki, le, go, mk, cb, mb, ml, la, ps, pd, pt, kw, kh, kf, kz, ky, th, pl, md, cr, gc, lc, lr, wh, od, tg, tr, so, bd, wo, be) x1 x2 :=
  ⟨113, yk_below5 hp 113 0 (-1) (by omega) (by omega) bk_best0⟩
/-! the same of the lists -/
theorem yk_countL {post : Int32 → Prop} {L : Nat} (h : bk_C B A g st ol th pl md cr lr gv ib il it qi qc ta wh od tg tr so bd fr en) (hL : L < 19) (hp : post (nI (A L).length)) : wpY_count post (fr, en, ma, wr, st, lf, cd, ta, bg, kc, ob, ol, pb, pn, yp, ki, le, go, mk, cb, mb, ml, la, ps, pd, pt, kw, kh, kf, kz, ky, th, pl, md, cr, gc, lc, lr, wh, od, tg, tr, so, bd, wo, be) (nI L) := by
  refine yk_count ?_
  rw [bk_count h.1 hL]
  exact hp
theorem yk_big {B : Nat} {x : Int32} (h : -(B : Int) ≤ x.toInt) (hB : B ≤ 100000000) : (-1000000000 : Int32).toInt < x.toInt := by
  have : (-1000000000 : Int32).toInt = -1000000000 := by decide
  omega
theorem yk_firstAt {post : Int32 → Prop} {L : Nat} (h : bk_C B A g st ol th pl md cr lr gv ib il it qi qc ta wh od tg tr so bd fr en) (hB : B ≤ 100000000) (hL : L < 19) (h0 : A L = [] → post (-1)) (h1 : ∀ p l, A L = p :: l → post (nI p.2.1)) : wpY_firstAt post (fr, en, ma, wr, st, lf, cd, ta, bg, kc, ob, ol, pb, pn, yp, ki, le, go, mk, cb, mb, ml, la, ps, pd, pt, kw, kh, kf, kz, ky, th, pl, md, cr, gc, lc, lr, wh, od, tg, tr, so, bd, wo, be) (nI L) := by
  unfold wpY_firstAt
  refine yk_after (fun b hb => ?_)
  have q2 : ∀ p, p ∈ A L → (-1000000000 : Int32).toInt < (od p.2.1).toInt := by
    intro p hp
    have w := (h.1.1 L p hL hp).2.2.2.1
    have w2 := h.2.2.2.2.2.1
    exact yk_big (B := B) (by omega) hB
  rcases bk_after h.1 hL (l1 := []) (l2 := A L) rfl (fun p hp => absurd hp List.not_mem_nil) q2 hb with ⟨e, rfl⟩ | ⟨p, l, e, rfl⟩
  · exact h0 e
  · exact h1 p l e
theorem yk_newestL {post : Int32 → Prop} {r : Nat} (h : bk_C B A g st ol th pl md cr lr gv ib il it qi qc ta wh od tg tr so bd fr en) (hr : r < 16) (h0 : A (3 + r) = [] → post (-1)) (h1 : ∀ p l, A (3 + r) = l ++ [p] → post (nI p.2.1)) : wpY_newest post (fr, en, ma, wr, st, lf, cd, ta, bg, kc, ob, ol, pb, pn, yp, ki, le, go, mk, cb, mb, ml, la, ps, pd, pt, kw, kh, kf, kz, ky, th, pl, md, cr, gc, lc, lr, wh, od, tg, tr, so, bd, wo, be) (nI r) := by
  refine yk_newest (fun b hb => ?_)
  have e3 : (3 : Int32) + nI r = nI (3 + r) := bn_add2 r 3
  rw [e3] at hb
  rcases bk_below h.1 (L := 3 + r) (by omega) (fun j => wh j = nI (3 + r)) (l1 := A (3 + r)) (l2 := []) (by rw [List.append_nil]) (fun _ z => z) (fun p hp => (h.1.1 _ p (by omega) hp).2.1) (fun p hp => absurd hp List.not_mem_nil) hb with ⟨e, rfl⟩ | ⟨p, l, e, rfl⟩
  · exact h0 e
  · exact h1 p l e
theorem yk_belowL {post : Int32 → Prop} {r : Nat} {T : Int32} {l1 l2 : List bk_E} (h : bk_C B A g st ol th pl md cr lr gv ib il it qi qc ta wh od tg tr so bd fr en) (hr : r < 16) (hA : A (3 + r) = l1 ++ l2) (q1 : ∀ p, p ∈ l1 → od p.2.1 < T) (q2 : ∀ p, p ∈ l2 → ¬ od p.2.1 < T) (h0 : l1 = [] → post (-1)) (h1 : ∀ p l, l1 = l ++ [p] → post (nI p.2.1)) : wpY_below post (fr, en, ma, wr, st, lf, cd, ta, bg, kc, ob, ol, pb, pn, yp, ki, le, go, mk, cb, mb, ml, la, ps, pd, pt, kw, kh, kf, kz, ky, th, pl, md, cr, gc, lc, lr, wh, od, tg, tr, so, bd, wo, be) (nI r) T := by
  refine yk_below (fun b hb => ?_)
  have e3 : (3 : Int32) + nI r = nI (3 + r) := bn_add2 r 3
  rw [e3] at hb
  rcases bk_below h.1 (L := 3 + r) (by omega) (fun j => wh j = nI (3 + r) ∧ od j < T) (l1 := l1) (l2 := l2) hA (fun _ z => z.1) (fun p hp => ⟨(h.1.1 _ p (by omega) (by rw [hA]; exact List.mem_append_left _ hp)).2.1, q1 p hp⟩) (fun p hp z => q2 p hp z.2) hb with ⟨e, rfl⟩ | ⟨p, l, e, rfl⟩
  · exact h0 e
  · exact h1 p l e
end SCAN
