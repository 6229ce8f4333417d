/-! the first byte of a frame -/
def bk_V0 (b mm : Nat) : Prop := b / 16 % 4 = 0 ∧ ((8 ≤ b % 16 ∧ b % 16 ≤ 10 ∧ 128 ≤ b) ∨ (b % 16 = 1 ∧ mm = 0) ∨ (b % 16 = 0 ∧ mm ≠ 0)) ∧ (b / 64 % 2 = 0 ∨ b % 16 = 1)
section FIRST
variable {B : Nat} {A : Nat → List bk_E} {g : Nat → Nat} {st lf cd bg gv ob ol pb pn xp fh fl fa mk cb mi mb ml pa kb kl kc th pl md cr hc hg hi ib il it qi qc gc lc lr co ta yp ki le go la ps pd pt kw kh kf kz ky wh od tg tr so bd wo be : Nat → Int32} {px fr en ma wr : Int32}
theorem xk_readFirst {post : Int32 → SX → Prop} {s b mm : Nat} (hs : s < 4) (hb : b < 256) (hm : mi s = nI mm) (hmm : mm ≤ 2)
    (h0 : ¬ bk_V0 b mm → post 2 (px, st, lf, cd, bg, gv, ob, ol, pb, pn, xp, fh, fl, fa, mk, cb, mi, mb, ml, pa, kb, kl, kc, th, pl, md, cr, hc, hg, hi, ib, il, it, qi, qc, gc, lc, lr, co)) (h1 : bk_V0 b mm → b % 16 ≠ 1 → post 0 (px, st, lf, cd, bg, gv, ob, ol, pb, pn, upd xp s 1, upd fh s (nI b), fl, fa, mk, cb, mi, mb, ml, pa, kb, kl, kc, th, pl, md, cr, hc, hg, hi, ib, il, it, qi, qc, gc, lc, lr, co))
    (h2 : bk_V0 b mm → b % 16 = 1 → b / 64 % 2 = 0 → post 0 (px, st, lf, cd, bg, gv, ob, ol, pb, pn, upd xp s 1, upd fh s (nI b), fl, fa, mk, cb, upd mi s 1, mb, ml, pa, kb, kl, kc, th, pl, md, cr, hc, hg, hi, ib, il, it, qi, qc, gc, lc, lr, co)) (h3 : bk_V0 b mm → b % 16 = 1 → b / 64 % 2 ≠ 0 → post 0 (px, st, lf, cd, bg, gv, ob, ol, pb, pn, upd xp s 1, upd fh s (nI b), fl, fa, mk, cb, upd mi s 2, mb, ml, pa, kb, kl, kc, th, pl, md, cr, hc, hg, hi, ib, il, it, qi, qc, gc, lc, lr, co)) : wpX_readFirst post (px, st, lf, cd, bg, gv, ob, ol, pb, pn, xp, fh, fl, fa, mk, cb, mi, mb, ml, pa, kb, kl, kc, th, pl, md, cr, hc, hg, hi, ib, il, it, qi, qc, gc, lc, lr, co) (nI s) (nI b) := by
  have cs : (nI s).toNatClampNeg = s := nI_clamp (by omega)
  have i4 : vp_in (nI s) 4 := pk_in s 4 hs
  have e15 := bn_15 b (by omega)
  have f138 : ∀ (mi' : Nat → Int32), post 0 (px, st, lf, cd, bg, gv, ob, ol, pb, pn, upd xp s 1, upd fh s (nI b), fl, fa, mk, cb, mi', mb, ml, pa, kb, kl, kc, th, pl, md, cr, hc, hg, hi, ib, il, it, qi, qc, gc, lc, lr, co) → wX_readFirst_138 post (nI s) (nI b) px st lf cd bg gv ob ol pb pn xp fh fl fa mk cb mi' mb ml pa kb kl kc th pl md cr hc hg hi ib il it qi qc gc lc lr co := by
    intro mi' hp
    refine ⟨i4, ?_⟩
    rw [cs]
    exact nm_e ⟨i4, nm_e hp⟩
  have f117 : ∀ z0 : Int32, (z0 = 0 ↔ b / 64 % 2 = 0) → bk_V0 b mm → wX_readFirst_117 post (nI s) (nI b) (nI (b % 16)) z0 px st lf cd bg gv ob ol pb pn xp fh fl fa mk cb mi mb ml pa kb kl kc th pl md cr hc hg hi ib il it qi qc gc lc lr co := by
    intro z0 hz v
    refine pk_eq (b % 16) 1 (fun e => ?_) (fun e => f138 mi (h1 v e))
    refine br_c (fun q => ?_) (fun q => ?_)
    · refine ⟨i4, ?_⟩
      rw [cs]
      exact nm_e (f138 _ (h2 v e (hz.mp q)))
    · refine ⟨i4, ?_⟩
      rw [cs]
      exact nm_e (f138 _ (h3 v e (fun x => q (hz.mpr x))))
  have f91 : ∀ x6 z0 : Int32, (z0 = 0 ↔ b / 64 % 2 = 0) → (x6 = 0 ↔ ¬ ((8 ≤ b % 16 ∧ b % 16 ≤ 10 ∧ 128 ≤ b) ∨ (b % 16 = 1 ∧ mm = 0) ∨ (b % 16 = 0 ∧ mm ≠ 0))) → wX_readFirst_91 post (nI s) (nI b) (nI (b % 16)) x6 z0 px st lf cd bg gv ob ol pb pn xp fh fl fa mk cb mi mb ml pa kb kl kc th pl md cr hc hg hi ib il it qi qc gc lc lr co := by
    intro x6 z0 hz hx
    refine br_c (fun q => h0 (fun v => (hx.mp q) v.2.1)) (fun q => ?_)
    have k : (8 ≤ b % 16 ∧ b % 16 ≤ 10 ∧ 128 ≤ b) ∨ (b % 16 = 1 ∧ mm = 0) ∨ (b % 16 = 0 ∧ mm ≠ 0) := by
      apply Classical.byContradiction
      intro n
      exact q (hx.mpr n)
    refine br_c (fun q48 => ?_) (fun q48 => h0 (fun v => q48 ((bn_48 b hb).mpr v.1)))
    have k48 := (bn_48 b hb).mp q48
    refine br_c (fun qz => f117 z0 hz ⟨k48, k, Or.inl (hz.mp qz)⟩) (fun qz => ?_)
    refine pk_eq (b % 16) 1 (fun e => f117 z0 hz ⟨k48, k, Or.inr e⟩) (fun e => h0 (fun v => ?_))
    rcases v.2.2 with x | x
    · exact qz (hz.mpr x)
    · exact e x
  have f77 : ∀ x6 : Int32, (x6 = 0 ↔ ¬ ((8 ≤ b % 16 ∧ b % 16 ≤ 10 ∧ 128 ≤ b) ∨ (b % 16 = 1 ∧ mm = 0) ∨ (b % 16 = 0 ∧ mm ≠ 0))) → wX_readFirst_77 post (nI s) (nI b) (nI (b % 16)) x6 px st lf cd bg gv ob ol pb pn xp fh fl fa mk cb mi mb ml pa kb kl kc th pl md cr hc hg hi ib il it qi qc gc lc lr co := by
    intro x6 hx
    refine br_c (fun q => f91 x6 0 ⟨fun _ => (bn_64 b hb).mp q, fun _ => rfl⟩ hx) (fun q => f91 x6 1 ⟨fun z => absurd z (by decide), fun z => absurd ((bn_64 b hb).mpr z) q⟩ hx)
  have t72 : ((8 ≤ b % 16 ∧ b % 16 ≤ 10 ∧ 128 ≤ b) ∨ (b % 16 = 1 ∧ mm = 0) ∨ (b % 16 = 0 ∧ mm ≠ 0)) → wX_readFirst_72 post (nI s) (nI b) (nI (b % 16)) px st lf cd bg gv ob ol pb pn xp fh fl fa mk cb mi mb ml pa kb kl kc th pl md cr hc hg hi ib il it qi qc gc lc lr co := fun k => f77 1 ⟨fun z => absurd z (by decide), fun z => absurd k z⟩
  have t76 : ¬ ((8 ≤ b % 16 ∧ b % 16 ≤ 10 ∧ 128 ≤ b) ∨ (b % 16 = 1 ∧ mm = 0) ∨ (b % 16 = 0 ∧ mm ≠ 0)) → wX_readFirst_76 post (nI s) (nI b) (nI (b % 16)) px st lf cd bg gv ob ol pb pn xp fh fl fa mk cb mi mb ml pa kb kl kc th pl md cr hc hg hi ib il it qi qc gc lc lr co := fun k => f77 0 ⟨fun _ => k, fun _ => rfl⟩
  have f53 : ∀ x5 : Int32, (x5 = 0 ↔ mm = 0) → ¬ (8 ≤ b % 16 ∧ b % 16 ≤ 10 ∧ 128 ≤ b) → wX_readFirst_53 post (nI s) (nI b) (nI (b % 16)) x5 px st lf cd bg gv ob ol pb pn xp fh fl fa mk cb mi mb ml pa kb kl kc th pl md cr hc hg hi ib il it qi qc gc lc lr co := by
    intro x5 h5 nc
    refine pk_eq (b % 16) 1 (fun e => br_c (fun q => t72 (Or.inr (Or.inl ⟨e, h5.mp q⟩))) (fun q => ?_)) (fun e => ?_)
    · exact pk_eq (b % 16) 0 (fun e2 => by omega) (fun e2 => t76 (fun k => by
        rcases k with k | k | k
        · exact nc k
        · exact q (h5.mpr k.2)
        · omega))
    · refine pk_eq (b % 16) 0 (fun e2 => br_c (fun q => t76 (fun k => ?_)) (fun q => t72 (Or.inr (Or.inr ⟨e2, fun z => q (h5.mpr z)⟩)))) (fun e2 => t76 (fun k => ?_))
      · have := h5.mp q
        rcases k with k | k | k <;> first | exact nc k | omega
      · rcases k with k | k | k <;> first | exact nc k | omega
  have f38 : ∀ x4 x5 : Int32, (x4 = 0 ↔ ¬ (8 ≤ b % 16 ∧ b % 16 ≤ 10)) → (x5 = 0 ↔ mm = 0) → wX_readFirst_38 post (nI s) (nI b) (nI (b % 16)) x4 x5 px st lf cd bg gv ob ol pb pn xp fh fl fa mk cb mi mb ml pa kb kl kc th pl md cr hc hg hi ib il it qi qc gc lc lr co := by
    intro x4 x5 h4 h5
    refine br_c (fun q => f53 x5 h5 (fun k => (h4.mp q) ⟨k.1, k.2.1⟩)) (fun q => br_c (fun q2 => f53 x5 h5 (fun k => ?_)) (fun q2 => t72 (Or.inl ?_)))
    · have := (bn_128 b hb).mp q2
      omega
    · have n2 : ¬ b < 128 := fun z => q2 ((bn_128 b hb).mpr z)
      have k : 8 ≤ b % 16 ∧ b % 16 ≤ 10 := by
        apply Classical.byContradiction
        intro n
        exact q (h4.mpr n)
      omega
  have f22 : ∀ x4 : Int32, (x4 = 0 ↔ ¬ (8 ≤ b % 16 ∧ b % 16 ≤ 10)) → wX_readFirst_22 post (nI s) (nI b) (nI (b % 16)) x4 px st lf cd bg gv ob ol pb pn xp fh fl fa mk cb mi mb ml pa kb kl kc th pl md cr hc hg hi ib il it qi qc gc lc lr co := by
    intro x4 h4
    refine ⟨i4, ?_⟩
    rw [cs, hm]
    exact pk_eq mm 0 (fun e => f38 x4 0 h4 ⟨fun _ => e, fun _ => rfl⟩) (fun e => f38 x4 1 h4 ⟨fun z => absurd z (by decide), fun z => absurd z e⟩)
  unfold wpX_readFirst
  dsimp only
  rw [e15]
  refine nm_e ?_
  refine pk_lt (b % 16) 8 (fun e => f22 0 ⟨fun _ => by omega, fun _ => rfl⟩) (fun e => pk_lt 10 (b % 16) (fun e2 => f22 0 ⟨fun _ => by omega, fun _ => rfl⟩) (fun e2 => f22 1 ⟨fun z => absurd z (by decide), fun z => absurd (And.intro e e2) z⟩))
theorem yk_first {post : SY → Prop} {s b mm : Nat} (hs : s < 4) (hb : b < 256) (hm : pt s = (if mm = 0 then 0 else 1))
    (h0 : ¬ bk_V0 b mm → wpY_faults (fun u => match u with | (fr, en, ma, wr, st, lf, cd, ta, bg, kc, ob, ol, pb, pn, yp, ki, le, go, mk, cb, mb, ml, la, ps, pd, pt, kw, kh, kf, kz, ky, th, pl, md, cr, gc, lc, lr, wh, od, tg, tr, so, bd, wo, be) => post (fr, en, ma, wr, st, lf, cd, ta, bg, kc, ob, ol, pb, pn, yp, ki, le, go, mk, cb, mb, ml, la, ps, pd, pt, kw, kh, kf, kz, ky, th, pl, md, cr, gc, lc, lr, wh, od, tg, tr, so, bd, wo, be)) (fr, en, ma, wr, st, lf, cd, ta, bg, kc, ob, ol, pb, pn, yp, ki, le, go, mk, cb, mb, ml, la, ps, pd, pt, kw, kh, kf, kz, ky, th, pl, md, cr, gc, lc, lr, wh, od, tg, tr, so, bd, wo, be) (nI s) 2)
    (h1 : bk_V0 b mm → post (fr, en, ma, wr, st, lf, cd, ta, bg, kc, ob, ol, pb, pn, upd yp s 1, upd ki s (nI (b % 16)), le, go, mk, cb, mb, ml, upd la s (if b < 128 then 0 else 1), upd ps s (if b / 64 % 2 = 0 then 0 else 1), pd, pt, kw, kh, kf, kz, ky, th, pl, md, cr, gc, lc, lr, wh, od, tg, tr, so, bd, wo, be)) : wpY_first post (fr, en, ma, wr, st, lf, cd, ta, bg, kc, ob, ol, pb, pn, yp, ki, le, go, mk, cb, mb, ml, la, ps, pd, pt, kw, kh, kf, kz, ky, th, pl, md, cr, gc, lc, lr, wh, od, tg, tr, so, bd, wo, be) (nI s) (nI b) := by
  have cs : (nI s).toNatClampNeg = s := nI_clamp (by omega)
  have i4 : vp_in (nI s) 4 := pk_in s 4 hs
  have e15 := bn_15 b (by omega)
  have f102 : ∀ x4 x5 : Int32, x4 = (if b / 64 % 2 = 0 then 0 else 1) → x5 = (if b < 128 then 0 else 1) → bk_V0 b mm → wY_first_102 post (nI s) (nI (b % 16)) x4 x5 fr en ma wr st lf cd ta bg kc ob ol pb pn yp ki le go mk cb mb ml la ps pd pt kw kh kf kz ky th pl md cr gc lc lr wh od tg tr so bd wo be := by
    intro x4 x5 h4 h5 v
    have n4 : vp_nar .boolean x4 = x4 := by rw [h4]; split; exact bn_b0; exact bn_b1
    have n5 : vp_nar .boolean x5 = x5 := by rw [h5]; split; exact bn_b0; exact bn_b1
    refine ⟨i4, ?_⟩
    rw [cs, n4, n5, h4, h5]
    exact nm_e ⟨i4, nm_e ⟨i4, nm_e ⟨i4, nm_e (h1 v)⟩⟩⟩
  have f71 : ∀ x4 x5 : Int32, x4 = (if b / 64 % 2 = 0 then 0 else 1) → x5 = (if b < 128 then 0 else 1) → b / 16 % 4 = 0 → (b % 16 ≤ 1 ∨ (8 ≤ b % 16 ∧ b % 16 ≤ 10 ∧ 128 ≤ b)) → (b / 64 % 2 = 0 ∨ b % 16 = 1) → wY_first_71 post (nI s) (nI (b % 16)) x4 x5 fr en ma wr st lf cd ta bg kc ob ol pb pn yp ki le go mk cb mb ml la ps pd pt kw kh kf kz ky th pl md cr gc lc lr wh od tg tr so bd wo be := by
    intro x4 x5 h4 h5 k48 k k64
    refine pk_le 2 (b % 16) (fun e => f102 x4 x5 h4 h5 ⟨k48, Or.inl (by omega), k64⟩) (fun e => ⟨i4, ?_⟩)
    rw [cs, hm]
    refine pk_eq (b % 16) 1 (fun e1 => ?_) (fun e1 => ?_)
    · by_cases z : mm = 0
      · rw [if_pos z]
        exact br_f (by decide) (f102 x4 x5 h4 h5 ⟨k48, Or.inr (Or.inl ⟨e1, z⟩), k64⟩)
      · rw [if_neg z]
        refine br_t rfl (h0 (fun v => ?_))
        rcases v.2.1 with x | x | x <;> omega
    · by_cases z : mm = 0
      · rw [if_pos z]
        refine br_t rfl (h0 (fun v => ?_))
        rcases v.2.1 with x | x | x <;> omega
      · rw [if_neg z]
        exact br_f (by decide) (f102 x4 x5 h4 h5 ⟨k48, Or.inr (Or.inr ⟨by omega, z⟩), k64⟩)
  have f61 : ∀ x4 x5 : Int32, x4 = (if b / 64 % 2 = 0 then 0 else 1) → x5 = (if b < 128 then 0 else 1) → b / 16 % 4 = 0 → (b % 16 ≤ 1 ∨ (8 ≤ b % 16 ∧ b % 16 ≤ 10 ∧ 128 ≤ b)) → wY_first_61 post (nI s) (nI (b % 16)) x4 x5 fr en ma wr st lf cd ta bg kc ob ol pb pn yp ki le go mk cb mb ml la ps pd pt kw kh kf kz ky th pl md cr gc lc lr wh od tg tr so bd wo be := by
    intro x4 x5 h4 h5 k48 k
    refine br_c (fun q => f71 x4 x5 h4 h5 k48 k (Or.inl ?_)) (fun q => pk_eq (b % 16) 1 (fun e => f71 x4 x5 h4 h5 k48 k (Or.inr e)) (fun e => h0 (fun v => ?_)))
    · apply Classical.byContradiction
      intro n
      rw [h4, if_neg n] at q
      exact absurd q (by decide)
    · rcases v.2.2 with x | x
      · rw [h4, if_pos x] at q
        exact q rfl
      · exact e x
  have f30 : ∀ x4 x5 : Int32, x4 = (if b / 64 % 2 = 0 then 0 else 1) → x5 = (if b < 128 then 0 else 1) → wY_first_30 post (nI s) (nI b) (nI (b % 16)) x4 x5 fr en ma wr st lf cd ta bg kc ob ol pb pn yp ki le go mk cb mb ml la ps pd pt kw kh kf kz ky th pl md cr gc lc lr wh od tg tr so bd wo be := by
    intro x4 x5 h4 h5
    refine br_c (fun q48 => ?_) (fun q48 => h0 (fun v => q48 ((bn_48 b hb).mpr v.1)))
    have k48 := (bn_48 b hb).mp q48
    have bad : (∀ v : bk_V0 b mm, False) → wpY_faults (fun u => match u with | (fr, en, ma, wr, st, lf, cd, ta, bg, kc, ob, ol, pb, pn, yp, ki, le, go, mk, cb, mb, ml, la, ps, pd, pt, kw, kh, kf, kz, ky, th, pl, md, cr, gc, lc, lr, wh, od, tg, tr, so, bd, wo, be) => post (fr, en, ma, wr, st, lf, cd, ta, bg, kc, ob, ol, pb, pn, yp, ki, le, go, mk, cb, mb, ml, la, ps, pd, pt, kw, kh, kf, kz, ky, th, pl, md, cr, gc, lc, lr, wh, od, tg, tr, so, bd, wo, be)) (fr, en, ma, wr, st, lf, cd, ta, bg, kc, ob, ol, pb, pn, yp, ki, le, go, mk, cb, mb, ml, la, ps, pd, pt, kw, kh, kf, kz, ky, th, pl, md, cr, gc, lc, lr, wh, od, tg, tr, so, bd, wo, be) (nI s) 2 := fun z => h0 z
    refine pk_le (b % 16) 1 (fun e => f61 x4 x5 h4 h5 k48 (Or.inl e)) (fun e => pk_lt (b % 16) 8 (fun e2 => bad (fun v => ?_)) (fun e2 => pk_lt 10 (b % 16) (fun e3 => bad (fun v => ?_)) (fun e3 => br_c (fun q => bad (fun v => ?_)) (fun q => f61 x4 x5 h4 h5 k48 (Or.inr ⟨e2, e3, ?_⟩)))))
    · rcases v.2.1 with x | x | x <;> omega
    · rcases v.2.1 with x | x | x <;> omega
    · have nb : b < 128 := by
        apply Classical.byContradiction
        intro n
        rw [h5, if_neg n] at q
        exact absurd q (by decide)
      rcases v.2.1 with x | x | x <;> omega
    · apply Classical.byContradiction
      intro n
      rw [h5, if_pos (by omega)] at q
      exact q rfl
  have f17 : ∀ x4 : Int32, x4 = (if b / 64 % 2 = 0 then 0 else 1) → wY_first_17 post (nI s) (nI b) (nI (b % 16)) x4 fr en ma wr st lf cd ta bg kc ob ol pb pn yp ki le go mk cb mb ml la ps pd pt kw kh kf kz ky th pl md cr gc lc lr wh od tg tr so bd wo be := by
    intro x4 h4
    exact pk_le b 127 (fun e => f30 x4 0 h4 (by rw [if_pos (by omega)])) (fun e => f30 x4 1 h4 (by rw [if_neg (by omega)]))
  unfold wpY_first
  dsimp only
  rw [e15]
  refine nm_e (br_c (fun q => f17 0 (by rw [if_pos ((bn_64 b hb).mp q)])) (fun q => f17 1 (by rw [if_neg (fun z => q ((bn_64 b hb).mpr z))])))
end FIRST
