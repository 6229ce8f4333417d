/-! Y's commands -/
section YCMD
variable {B : Nat} {A : Nat → List bk_E} {g : Nat → Nat} {st lf cd bg gv ob ol pb pn xp fh fl fa mk cb mi mb ml pa kb kl kc th pl md cr hc hg hi ib il it qi qc gc lc lr co ta yp ki le go la ps pd pt kw kh kf kz ky wh od tg tr so bd wo be : Nat → Int32} {px fr en ma wr : Int32}
theorem yk_subscribes {post : Int32 → SY → Prop} {s n t m c : Nat} (hs : s < 4) (hn : n < 256) (ht : t < 256) (hm : m < 256) (hc' : c < 256)
    (h1 : n < 4 → th (4 * s + n) = 0 → t < 6 → m < 3 → 1 ≤ c → c ≤ 5 → post 1 (fr, en, ma, wr, st, lf, cd, ta, bg, kc, ob, ol, pb, pn, yp, ki, le, go, mk, cb, mb, ml, la, ps, pd, pt, kw, kh, kf, kz, ky, upd th (4 * s + n) 1, upd pl (4 * s + n) (nI t), upd md (4 * s + n) (nI m), upd cr (4 * s + n) (nI c), gc, lc, lr, wh, od, tg, tr, so, bd, wo, be))
    (h0 : ¬ (n < 4 ∧ th (4 * s + n) = 0 ∧ t < 6 ∧ m < 3 ∧ 1 ≤ c ∧ c ≤ 5) → post 0 (fr, en, ma, wr, st, lf, cd, ta, bg, kc, ob, ol, pb, pn, yp, ki, le, go, mk, cb, mb, ml, la, ps, pd, pt, kw, kh, kf, kz, ky, th, pl, md, cr, gc, lc, lr, wh, od, tg, tr, so, bd, wo, be)) : wpY_subscribes post (fr, en, ma, wr, st, lf, cd, ta, bg, kc, ob, ol, pb, pn, yp, ki, le, go, mk, cb, mb, ml, la, ps, pd, pt, kw, kh, kf, kz, ky, th, pl, md, cr, gc, lc, lr, wh, od, tg, tr, so, bd, wo, be) (nI s) (nI n) (nI t) (nI m) (nI c) := by
  refine pk_lt 3 n (fun g => h0 (fun z => by omega)) (fun g => ?_)
  have e1 : 4 * nI s + nI n = nI (4 * s + n) := by rw [bn_mul2, nI_add]
  have c1 : (nI (4 * s + n)).toNatClampNeg = 4 * s + n := nI_clamp (by omega)
  have i16 : vp_in (nI (4 * s + n)) 16 := vp_in_nI (by omega) (by omega)
  rw [e1, c1, bn_b1]
  refine ⟨i16, br_c (fun g2 => ?_) (fun g2 => h0 (fun z => g2 z.2.1))⟩
  refine pk_lt 5 t (fun g3 => h0 (fun z => by omega)) (fun g3 => pk_lt 2 m (fun g4 => h0 (fun z => by omega)) (fun g4 => pk_lt c 1 (fun g5 => h0 (fun z => by omega)) (fun g5 => pk_le c 5 (fun g6 => ?_) (fun g6 => h0 (fun z => by omega)))))
  refine nm_e ⟨i16, ?_⟩
  rw [c1]
  exact nm_e ⟨i16, nm_e ⟨i16, nm_e ⟨i16, nm_e (h1 (by omega) g2 (by omega) (by omega) g5 g6)⟩⟩⟩
theorem yk_full {post : Int32 → SY → Prop} {s : Nat} {w a x n : Int32} (hs : s < 4) (hc' : kc s = 6) (hx : x ≠ 0) (hp : post 0 (fr, en, ma, wr, st, lf, cd, ta, bg, kc, ob, ol, pb, pn, yp, ki, le, go, mk, cb, mb, ml, la, ps, pd, pt, kw, kh, kf, kz, ky, th, pl, md, cr, gc, lc, lr, wh, od, tg, tr, so, bd, wo, be)) : wpY_does post (fr, en, ma, wr, st, lf, cd, ta, bg, kc, ob, ol, pb, pn, yp, ki, le, go, mk, cb, mb, ml, la, ps, pd, pt, kw, kh, kf, kz, ky, th, pl, md, cr, gc, lc, lr, wh, od, tg, tr, so, bd, wo, be) (nI s) w a x n := by
  have cs : (nI s).toNatClampNeg = s := nI_clamp (by omega)
  refine br_f hx ⟨pk_in s 4 hs, ?_⟩
  rw [cs]
  exact br_t hc' hp
theorem yk_command {post : Int32 → SY → Prop} {s m b c : Nat} {v : Nat → Nat} (hs : s < 4) (hm1 : 1 ≤ m) (hm : m ≤ 200) (hv : ∀ j, v j < 256) (hwo : ∀ j, j < m → wo j = nI (v j)) (hb : bg s = nI b) (hb4 : b < 4) (hc' : kc s = nI c) (hc6 : c ≤ 6)
    (h0 : ¬ bk_Vd th s m b c v → post 0 (fr, en, nI m, wr, st, lf, cd, ta, bg, kc, ob, ol, pb, pn, yp, ki, le, go, mk, cb, mb, ml, la, ps, pd, pt, kw, kh, kf, kz, ky, th, pl, md, cr, gc, lc, lr, wh, od, tg, tr, so, bd, wo, be))
    (g1 : bk_Vd th s m b c v → v 0 = 1 → post 1 (fr, en, nI m, wr, st, lf, cd, ta, bg, kc, ob, ol, pb, pn, yp, ki, le, go, mk, cb, mb, ml, la, ps, pd, pt, kw, kh, kf, kz, ky, upd th (4 * s + v 1) 1, upd pl (4 * s + v 1) (nI (v 2)), upd md (4 * s + v 1) (nI (v 3)), upd cr (4 * s + v 1) (nI (v 4)), gc, lc, lr, wh, od, tg, tr, so, bd, wo, be))
    (g2 : bk_Vd th s m b c v → v 0 = 2 → wpY_endsOne (fun u => match u with | (fr, en, ma, wr, st, lf, cd, ta, bg, kc, ob, ol, pb, pn, yp, ki, le, go, mk, cb, mb, ml, la, ps, pd, pt, kw, kh, kf, kz, ky, th, pl, md, cr, gc, lc, lr, wh, od, tg, tr, so, bd, wo, be) => post 1 (fr, en, ma, wr, st, lf, cd, ta, bg, kc, ob, ol, pb, pn, yp, ki, le, go, mk, cb, mb, ml, la, ps, pd, pt, kw, kh, kf, kz, ky, th, pl, md, cr, gc, lc, lr, wh, od, tg, tr, so, bd, wo, be)) (fr, en, nI m, wr, st, lf, cd, ta, bg, kc, ob, ol, pb, pn, yp, ki, le, go, mk, cb, mb, ml, la, ps, pd, pt, kw, kh, kf, kz, ky, th, pl, md, cr, gc, lc, lr, wh, od, tg, tr, so, bd, wo, be) (nI (4 * s + v 1)))
    (g3 : bk_Vd th s m b c v → v 0 = 3 → wpY_does (fun r u => match u with | (fr, en, ma, wr, st, lf, cd, ta, bg, kc, ob, ol, pb, pn, yp, ki, le, go, mk, cb, mb, ml, la, ps, pd, pt, kw, kh, kf, kz, ky, th, pl, md, cr, gc, lc, lr, wh, od, tg, tr, so, bd, wo, be) => ((r = 0 → post 0 (fr, en, ma, wr, st, lf, cd, ta, bg, kc, ob, ol, pb, pn, yp, ki, le, go, mk, cb, mb, ml, la, ps, pd, pt, kw, kh, kf, kz, ky, th, pl, md, cr, gc, lc, lr, wh, od, tg, tr, so, bd, wo, be)) ∧ (¬ r = 0 → post 1 (fr, en, ma, wr, st, lf, cd, ta, bg, kc, ob, ol, pb, pn, yp, ki, le, go, mk, cb, mb, ml, la, ps, pd, pt, kw, kh, kf, kz, ky, th, pl, md, cr, gc, lc, lr, wh, od, tg, tr, so, bd, wo, be)))) (fr, en, nI m, wr, st, lf, cd, ta, bg, kc, ob, ol, pb, pn, yp, ki, le, go, mk, cb, mb, ml, la, ps, pd, pt, kw, kh, kf, kz, ky, th, pl, md, cr, gc, lc, lr, wh, od, tg, tr, so, bd, wo, be) (nI s) (nI 3) (nI (v 1)) (nI (v 2)) (nI (m - 3)))
    (g4 : bk_Vd th s m b c v → v 0 = 4 ∨ v 0 = 5 → wpY_does (fun r u => match u with | (fr, en, ma, wr, st, lf, cd, ta, bg, kc, ob, ol, pb, pn, yp, ki, le, go, mk, cb, mb, ml, la, ps, pd, pt, kw, kh, kf, kz, ky, th, pl, md, cr, gc, lc, lr, wh, od, tg, tr, so, bd, wo, be) => ((r = 0 → post 0 (fr, en, ma, wr, st, lf, cd, ta, bg, kc, ob, ol, pb, pn, yp, ki, le, go, mk, cb, mb, ml, la, ps, pd, pt, kw, kh, kf, kz, ky, th, pl, md, cr, gc, lc, lr, wh, od, tg, tr, so, bd, wo, be)) ∧ (¬ r = 0 → post 1 (fr, en, ma, wr, st, lf, cd, ta, bg, kc, ob, ol, pb, pn, yp, ki, le, go, mk, cb, mb, ml, la, ps, pd, pt, kw, kh, kf, kz, ky, th, pl, md, cr, gc, lc, lr, wh, od, tg, tr, so, bd, wo, be)))) (fr, en, nI m, wr, st, lf, cd, ta, bg, kc, ob, ol, pb, pn, yp, ki, le, go, mk, cb, mb, ml, la, ps, pd, pt, kw, kh, kf, kz, ky, th, pl, md, cr, gc, lc, lr, wh, od, tg, tr, so, bd, wo, be) (nI s) (nI (v 0)) (nI (v 1)) (nI (v 2)) (nI 0))
    (g6 : bk_Vd th s m b c v → v 0 = 6 → post 1 (fr, en, nI m, wr, st, lf, cd, ta, upd bg s (bg s ||| nI (v 1)), kc, ob, ol, pb, pn, yp, ki, le, go, mk, cb, mb, ml, la, ps, pd, pt, kw, kh, kf, kz, ky, th, pl, md, cr, gc, lc, lr, wh, od, tg, tr, so, bd, wo, be))
    (g7 : bk_Vd th s m b c v → v 0 = 7 → wpY_closes (fun r u => match u with | (fr, en, ma, wr, st, lf, cd, ta, bg, kc, ob, ol, pb, pn, yp, ki, le, go, mk, cb, mb, ml, la, ps, pd, pt, kw, kh, kf, kz, ky, th, pl, md, cr, gc, lc, lr, wh, od, tg, tr, so, bd, wo, be) => ((r = 0 → post 0 (fr, en, ma, wr, st, lf, cd, ta, bg, kc, ob, ol, pb, pn, yp, ki, le, go, mk, cb, mb, ml, la, ps, pd, pt, kw, kh, kf, kz, ky, th, pl, md, cr, gc, lc, lr, wh, od, tg, tr, so, bd, wo, be)) ∧ (¬ r = 0 → post 1 (fr, en, ma, wr, st, lf, cd, ta, bg, kc, ob, ol, pb, pn, yp, ki, le, go, mk, cb, mb, ml, la, ps, pd, pt, kw, kh, kf, kz, ky, th, pl, md, cr, gc, lc, lr, wh, od, tg, tr, so, bd, wo, be)))) (fr, en, nI m, wr, st, lf, cd, ta, bg, kc, ob, ol, pb, pn, yp, ki, le, go, mk, cb, mb, ml, la, ps, pd, pt, kw, kh, kf, kz, ky, th, pl, md, cr, gc, lc, lr, wh, od, tg, tr, so, bd, wo, be) (nI s) (nI (v 1)) 1)
    (g8 : bk_Vd th s m b c v → v 0 = 8 → wpY_closes (fun r u => match u with | (fr, en, ma, wr, st, lf, cd, ta, bg, kc, ob, ol, pb, pn, yp, ki, le, go, mk, cb, mb, ml, la, ps, pd, pt, kw, kh, kf, kz, ky, th, pl, md, cr, gc, lc, lr, wh, od, tg, tr, so, bd, wo, be) => ((r = 0 → post 0 (fr, en, ma, wr, st, lf, cd, ta, bg, kc, ob, ol, pb, pn, yp, ki, le, go, mk, cb, mb, ml, la, ps, pd, pt, kw, kh, kf, kz, ky, th, pl, md, cr, gc, lc, lr, wh, od, tg, tr, so, bd, wo, be)) ∧ (¬ r = 0 → post 1 (fr, en, ma, wr, st, lf, cd, ta, bg, kc, ob, ol, pb, pn, yp, ki, le, go, mk, cb, mb, ml, la, ps, pd, pt, kw, kh, kf, kz, ky, th, pl, md, cr, gc, lc, lr, wh, od, tg, tr, so, bd, wo, be)))) (fr, en, nI m, wr, st, lf, cd, ta, bg, kc, ob, ol, pb, pn, yp, ki, le, go, mk, cb, mb, ml, la, ps, pd, pt, kw, kh, kf, kz, ky, th, pl, md, cr, gc, lc, lr, wh, od, tg, tr, so, bd, wo, be) (nI s) (nI (v 1)) 0)
    (g9 : bk_Vd th s m b c v → v 0 = 9 → wpY_write (fun u => match u with | (fr, en, ma, wr, st, lf, cd, ta, bg, kc, ob, ol, pb, pn, yp, ki, le, go, mk, cb, mb, ml, la, ps, pd, pt, kw, kh, kf, kz, ky, th, pl, md, cr, gc, lc, lr, wh, od, tg, tr, so, bd, wo, be) => wY_command_369 post fr en ma wr st lf cd ta bg kc ob ol pb pn yp ki le go mk cb mb ml la ps pd pt kw kh kf kz ky th pl md cr gc lc lr wh od tg tr so bd wo be) (fr, en, nI m, wr, st, lf, cd, ta, bg, kc, ob, ol, pb, pn, yp, ki, le, go, mk, cb, mb, ml, la, ps, pd, pt, kw, kh, kf, kz, ky, th, pl, md, cr, gc, lc, lr, wh, od, tg, tr, so, bd, wo, be) (nI s) 1 2) :
    wpY_command post (fr, en, nI m, wr, st, lf, cd, ta, bg, kc, ob, ol, pb, pn, yp, ki, le, go, mk, cb, mb, ml, la, ps, pd, pt, kw, kh, kf, kz, ky, th, pl, md, cr, gc, lc, lr, wh, od, tg, tr, so, bd, wo, be) (nI s) := by
  have cs : (nI s).toNatClampNeg = s := nI_clamp (by omega)
  have hv0 := hv 0
  have hv1 := hv 1
  have hv2 := hv 2
  have hv3 := hv 3
  have hv4 := hv 4
  have key : ∀ a z : Int32, (2 ≤ m → a = nI (v 1)) → (3 ≤ m → z = nI (v 2)) → wY_command_44 post (nI s) (nI (v 0)) a z fr en (nI m) wr st lf cd ta bg kc ob ol pb pn yp ki le go mk cb mb ml la ps pd pt kw kh kf kz ky th pl md cr gc lc lr wh od tg tr so bd wo be := by
    intro a z ha hz
    rcases bk_code (v 0) with k | k | k | k | k | k | k | k | k | k
    · have n := vd_0 (th := th) (s := s) (m := m) (b := b) (c := c) k
      exact pk_lt (v 0) 1 (fun _ => h0 n) (fun g => pk_lt 9 (v 0) (fun _ => h0 n) (fun g2 => by omega))
    · rw [vd_1 k] at h0 g1
      rw [k]
      refine br_f (by decide) (br_f (by decide) (br_t rfl (pk_eq m 5 (fun e5 => ?_) (fun e5 => h0 (fun z => e5 z.1)))))
      rw [ha (by omega), hz (by omega), hwo 3 (by omega), hwo 4 (by omega)]
      refine yk_subscribes hs hv1 hv2 hv3 hv4 (fun q1 q2 q3 q4 q5 q6 => br_f (by decide) (g1 ⟨e5, q1, q2, q3, q4, q5, q6⟩ k)) (fun q => br_t rfl (h0 (fun z => q z.2)))
    · rw [vd_2 k] at h0 g2
      rw [k]
      refine br_f (by decide) (br_f (by decide) (br_f (by decide) (br_t rfl (pk_eq m 2 (fun e5 => ?_) (fun e5 => h0 (fun z => e5 z.1))))))
      rw [ha (by omega)]
      refine pk_lt 3 (v 1) (fun g => h0 (fun z => by omega)) (fun g => ?_)
      have e1 : 4 * nI s + nI (v 1) = nI (4 * s + v 1) := by rw [bn_mul2, nI_add]
      have c1 : (nI (4 * s + v 1)).toNatClampNeg = 4 * s + v 1 := nI_clamp (by omega)
      rw [e1, c1]
      exact ⟨vp_in_nI (by omega) (by omega), br_c (fun q => h0 (fun z => z.2.2 q)) (fun q => g2 ⟨e5, by omega, q⟩ k)⟩
    · rw [vd_3 k] at h0 g3
      rw [k]
      refine br_f (by decide) (br_f (by decide) (br_f (by decide) (br_f (by decide) (br_t rfl (pk_le m 3 (fun e5 => h0 (fun z => by omega)) (fun e5 => pk_le 20 m (fun e6 => h0 (fun z => by omega)) (fun e6 => ?_)))))))
      have e3 : nI m - 3 = nI (m - 3) := pk_sub (a := m) (b := 3) (by omega)
      rw [ha (by omega), hz (by omega), e3]
      refine pk_le 6 (v 1) (fun g => h0 (fun z => by omega)) (fun g => ?_)
      refine yk_may hs hb hb4 hv2 (fun w => br_f (by decide) ?_) (fun w => br_t rfl (h0 (fun z => w ?_)))
      · by_cases q : v 2 = 0 ∨ (bk_Beg b (v 2) ∧ c < 6)
        · exact g3 ⟨by omega, by omega, g, q⟩ k
        · have cc : c = 6 := by
            rcases w with w | w
            · exact absurd (Or.inl w) q
            · apply Classical.byContradiction
              intro x
              exact q (Or.inr ⟨w, by omega⟩)
          exact yk_full hs (by rw [hc', cc]; rfl) (nI_ne0 (Nat.pos_of_ne_zero (fun x => q (Or.inl x))) (by omega)) (br_t rfl (h0 (fun z => q z.2.2.2)))
      · rcases z.2.2.2 with x | x
        · exact Or.inl x
        · exact Or.inr x.1
    · rw [vd_4 k] at h0 g4
      rw [k]
      refine br_f (by decide) (br_f (by decide) (br_f (by decide) (br_f (by decide) (br_f (by decide) (br_t rfl (pk_eq m 3 (fun e5 => ?_) (fun e5 => h0 (fun z => e5 z.1))))))))
      rw [ha (by omega), hz (by omega)]
      rw [k] at g4
      refine yk_may hs hb hb4 hv2 (fun w => br_f (by decide) ?_) (fun w => br_t rfl (h0 (fun z => w ?_)))
      · by_cases q : v 2 = 0 ∨ (bk_Beg b (v 2) ∧ c < 6)
        · exact g4 ⟨e5, q⟩ (by omega)
        · have cc : c = 6 := by
            rcases w with w | w
            · exact absurd (Or.inl w) q
            · apply Classical.byContradiction
              intro x
              exact q (Or.inr ⟨w, by omega⟩)
          exact yk_full hs (by rw [hc', cc]; rfl) (nI_ne0 (Nat.pos_of_ne_zero (fun x => q (Or.inl x))) (by omega)) (br_t rfl (h0 (fun z => q z.2)))
      · rcases z.2 with x | x
        · exact Or.inl x
        · exact Or.inr x.1
    · rw [vd_5 k] at h0 g4
      rw [k]
      refine br_f (by decide) (br_f (by decide) (br_f (by decide) (br_f (by decide) (br_f (by decide) (br_f (by decide) (br_t rfl (pk_eq m 3 (fun e5 => ?_) (fun e5 => h0 (fun z => e5 z.1)))))))))
      rw [ha (by omega), hz (by omega)]
      rw [k] at g4
      refine yk_may hs hb hb4 hv2 (fun w => br_f (by decide) ?_) (fun w => br_t rfl (h0 (fun z => w ?_)))
      · by_cases q : v 2 = 0 ∨ (bk_Beg b (v 2) ∧ c < 6)
        · exact g4 ⟨e5, q⟩ (by omega)
        · have cc : c = 6 := by
            rcases w with w | w
            · exact absurd (Or.inl w) q
            · apply Classical.byContradiction
              intro x
              exact q (Or.inr ⟨w, by omega⟩)
          exact yk_full hs (by rw [hc', cc]; rfl) (nI_ne0 (Nat.pos_of_ne_zero (fun x => q (Or.inl x))) (by omega)) (br_t rfl (h0 (fun z => q z.2)))
      · rcases z.2 with x | x
        · exact Or.inl x
        · exact Or.inr x.1
    · rw [vd_6 k] at h0 g6
      rw [k]
      refine br_f (by decide) (br_f (by decide) (br_f (by decide) (br_f (by decide) (br_f (by decide) (br_f (by decide) (br_f (by decide) (br_t rfl (pk_eq m 2 (fun e5 => ?_) (fun e5 => h0 (fun z => e5 z.1))))))))))
      rw [ha (by omega)]
      refine pk_lt (v 1) 1 (fun g => h0 (fun z => by omega)) (fun g => pk_lt 2 (v 1) (fun g' => h0 (fun z => by omega)) (fun g' => ?_))
      refine yk_may hs hb hb4 hv1 (fun w => br_f (by decide) (h0 (fun z => z.2.2 ?_))) (fun w => br_t rfl ⟨pk_in s 4 hs, pk_in s 4 hs, ?_⟩)
      · rcases w with w | w
        · omega
        · exact w
      · rw [cs]
        exact nm_e (g6 ⟨e5, by omega, fun x => w (Or.inr x)⟩ k)
    · rw [vd_7 k] at h0 g7
      rw [k]
      refine br_f (by decide) (br_f (by decide) (br_f (by decide) (br_f (by decide) (br_f (by decide) (br_f (by decide) (br_f (by decide) (br_f (by decide) (br_t rfl (pk_eq m 2 (fun e5 => ?_) (fun e5 => h0 (fun z => e5 z.1)))))))))))
      rw [ha (by omega)]
      refine pk_le (v 1) 0 (fun g => h0 (fun z => ?_)) (fun g => yk_may hs hb hb4 hv1 (fun w => br_f (by decide) ?_) (fun w => br_t rfl (h0 (fun z => w (Or.inr z.2)))))
      · rcases z.2 with x | x <;> omega
      · have w' : bk_Beg b (v 1) := by
          rcases w with w | w
          · omega
          · exact w
        exact br_t rfl (g7 ⟨e5, w'⟩ k)
    · rw [vd_8 k] at h0 g8
      rw [k]
      refine br_f (by decide) (br_f (by decide) (br_f (by decide) (br_f (by decide) (br_f (by decide) (br_f (by decide) (br_f (by decide) (br_f (by decide) (br_f (by decide) (br_t rfl (pk_eq m 2 (fun e5 => ?_) (fun e5 => h0 (fun z => e5 z.1))))))))))))
      rw [ha (by omega)]
      refine pk_le (v 1) 0 (fun g => h0 (fun z => ?_)) (fun g => yk_may hs hb hb4 hv1 (fun w => br_f (by decide) ?_) (fun w => br_t rfl (h0 (fun z => w (Or.inr z.2)))))
      · rcases z.2 with x | x <;> omega
      · have w' : bk_Beg b (v 1) := by
          rcases w with w | w
          · omega
          · exact w
        exact br_f (by decide) (g8 ⟨e5, w'⟩ k)
    · rw [vd_9 k] at h0 g9
      rw [k]
      exact br_f (by decide) (br_f (by decide) (br_f (by decide) (br_f (by decide) (br_f (by decide) (br_f (by decide) (br_f (by decide) (br_f (by decide) (br_f (by decide) (br_f (by decide) (br_t rfl (pk_eq m 2 (fun e5 => g9 e5 k) (fun e5 => br_f (fun z => e5 ((nI_eq (a := m) (b := 2) (by omega) (by omega)).mp z)) (h0 (fun z => e5 z))))))))))))))
  refine nm_r (hwo 0 (by omega)) ?_
  refine pk_le m 1 (fun g => ?_) (fun g => ?_)
  · refine pk_le m 2 (fun g' => key _ _ (fun z => by omega) (fun z => by omega)) (fun g' => by omega)
  · rw [hwo 1 (by omega)]
    refine pk_le m 2 (fun g' => key _ _ (fun _ => rfl) (fun z => by omega)) (fun g' => ?_)
    rw [hwo 2 (by omega)]
    exact key _ _ (fun _ => rfl) (fun _ => rfl)
end YCMD
