/-! messages become part of the past -/
def bk_pi (pb pa : Nat → Int32) (s k m i : Nat) : Nat → Int32 := fun j => if 64 * s ≤ j ∧ j < 64 * s + i then bk_past pb pa s k m j else pb j
theorem bk_pi_0 (pb pa : Nat → Int32) (s k m : Nat) : bk_pi pb pa s k m 0 = pb := by
  funext j; unfold bk_pi; rw [if_neg (by omega)]
theorem bk_pi_s (pb pa : Nat → Int32) (s k m i : Nat) : upd (bk_pi pb pa s k m i) (64 * s + i) (bk_past pb pa s k m (64 * s + i)) = bk_pi pb pa s k m (i + 1) := by
  funext j
  unfold upd bk_pi
  by_cases e : j = 64 * s + i
  · rw [if_pos e, if_pos (by omega), e]
  · rw [if_neg e]
    by_cases h : 64 * s ≤ j ∧ j < 64 * s + i
    · rw [if_pos h, if_pos (by omega)]
    · rw [if_neg h, if_neg (by omega)]
theorem bk_pi_e (pb pa : Nat → Int32) (s k m : Nat) : bk_pi pb pa s k m (min 64 (k + m)) = bk_past pb pa s k m := by
  funext j
  unfold bk_pi
  by_cases h : 64 * s ≤ j ∧ j < 64 * s + min 64 (k + m)
  · rw [if_pos h]
  · rw [if_neg h]
    unfold bk_past
    rw [if_neg h]
theorem bk_pi_o (pb pa : Nat → Int32) (s k m i x : Nat) (h : i ≤ x) : bk_pi pb pa s k m i (64 * s + x) = pb (64 * s + x) := by
  unfold bk_pi; rw [if_neg (by omega)]
theorem bk_past_at (pb pa : Nat → Int32) (s k m i : Nat) (h : i < min 64 (k + m)) : bk_past pb pa s k m (64 * s + i) = if (k + m - 64) + i < k then pb (64 * s + ((k + m - 64) + i)) else pa ((k + m - 64) + i - k) := by
  unfold bk_past
  rw [if_pos (by omega)]
  by_cases z : (k + m - 64) + i < k
  · rw [if_pos z, if_pos (by omega)]
    exact congrArg pb (by omega)
  · rw [if_neg z, if_neg (by omega)]
    exact congrArg pa (by omega)
section REM
variable {B : Nat} {A : Nat → List bk_E} {g : Nat → Nat} {st lf cd bg gv ob ol pb pn xp fh fl fa mk cb mi mb ml pa kb kl kc th pl md cr hc hg hi ib il it qi qc gc lc lr co ta yp ki le go la ps pd pt kw kh kf kz ky wh od tg tr so bd wo be : Nat → Int32} {px fr en ma wr : Int32}
theorem xk_rem41 {post : SX → Prop} {s k m : Nat} (hs : s < 4) (hk : k ≤ 64) (hm : m ≤ 200)
    (hp : post (nI m, st, lf, cd, bg, gv, ob, ol, bk_past pb pa s k m, upd pn s (nI (min 64 (k + m))), xp, fh, fl, fa, mk, cb, mi, mb, ml, pa, kb, kl, kc, th, pl, md, cr, hc, hg, hi, ib, il, it, qi, qc, gc, lc, lr, co)) :
    ∀ f i, i ≤ min 64 (k + m) → min 64 (k + m) - i < f → wX_remember_41 post (nI s) (nI (64 * s)) (nI k) (nI (k + m)) (nI (k + m - 64)) (nI m) f (nI i) st lf cd bg gv ob ol (bk_pi pb pa s k m i) pn xp fh fl fa mk cb mi mb ml pa kb kl kc th pl md cr hc hg hi ib il it qi qc gc lc lr co
  | 0, i, _, h => by omega
  | f + 1, i, h1, h2 => by
    have cs : (nI s).toNatClampNeg = s := nI_clamp (by omega)
    have eM : nI (k + m) - nI (k + m - 64) = nI (min 64 (k + m)) := by
      rw [pk_sub (by omega)]
      exact congrArg nI (by omega)
    have e7 : nI (k + m - 64) + nI i = nI ((k + m - 64) + i) := nI_add _ _
    have e1 : nI (64 * s) + nI i = nI (64 * s + i) := nI_add _ _
    have c1 : (nI (64 * s + i)).toNatClampNeg = 64 * s + i := nI_clamp (by omega)
    have ih := fun g => xk_rem41 hs hk hm hp f (i + 1) g (by omega)
    rw [← bk_pi_s] at ih
    unfold wX_remember_41
    rw [eM]
    refine pk_le (min 64 (k + m)) i (fun g => ⟨pk_in s 4 hs, ?_⟩) (fun g => nm_r e7 ?_)
    · have : i = min 64 (k + m) := by omega
      rw [this, bk_pi_e, cs]
      exact nm_e hp
    · rw [e1, c1]
      have at_ := bk_past_at pb pa s k m i g
      refine pk_le k ((k + m - 64) + i) (fun z => ?_) (fun z => ?_)
      · have e3 : nI ((k + m - 64) + i) - nI k = nI ((k + m - 64) + i - k) := pk_sub z
        have c3 : (nI ((k + m - 64) + i - k)).toNatClampNeg = (k + m - 64) + i - k := nI_clamp (by omega)
        rw [e3, c3]
        rw [if_neg (by omega)] at at_
        rw [← at_]
        exact ⟨vp_in_nI (by omega) (by omega), vp_in_nI (by omega) (by omega), nm_e (nm_r (nI_1 i) (ih (by omega)))⟩
      · have e3 : nI (64 * s) + nI ((k + m - 64) + i) = nI (64 * s + ((k + m - 64) + i)) := nI_add _ _
        have c3 : (nI (64 * s + ((k + m - 64) + i))).toNatClampNeg = 64 * s + ((k + m - 64) + i) := nI_clamp (by omega)
        rw [e3, c3, bk_pi_o pb pa s k m i _ (by omega)]
        rw [if_pos z] at at_
        rw [← at_]
        exact ⟨vp_in_nI (by omega) (by omega), vp_in_nI (by omega) (by omega), nm_e (nm_r (nI_1 i) (ih (by omega)))⟩
theorem xk_remember {post : SX → Prop} {s k m : Nat} (hs : s < 4) (hk : k ≤ 64) (hm : m ≤ 200) (hn : pn s = nI k)
    (hp : post (nI m, st, lf, cd, bg, gv, ob, ol, bk_past pb pa s k m, upd pn s (nI (min 64 (k + m))), xp, fh, fl, fa, mk, cb, mi, mb, ml, pa, kb, kl, kc, th, pl, md, cr, hc, hg, hi, ib, il, it, qi, qc, gc, lc, lr, co)) : wpX_remember post (nI m, st, lf, cd, bg, gv, ob, ol, pb, pn, xp, fh, fl, fa, mk, cb, mi, mb, ml, pa, kb, kl, kc, th, pl, md, cr, hc, hg, hi, ib, il, it, qi, qc, gc, lc, lr, co) (nI s) := by
  have cs : (nI s).toNatClampNeg = s := nI_clamp (by omega)
  have e6 : nI s * 64 = nI (64 * s) := by rw [bn_mul, Nat.mul_comm]
  have e64 : nI (k + m) - 64 = nI (k + m) - nI 64 := rfl
  have w := xk_rem41 (pn := pn) hs hk hm hp (min 64 (k + m) + 1) 0 (by omega) (by omega)
  rw [bk_pi_0] at w
  refine nm_r e6 ⟨pk_in s 4 hs, ?_⟩
  rw [cs, hn]
  refine nm_e (nm_r (nI_add k m) (pk_le (k + m) 64 (fun g => ?_) (fun g => ?_)))
  · have e0 : k + m - 64 = 0 := by omega
    rw [e0] at w
    exact ⟨_, w⟩
  · refine nm_r (pk_sub (a := k + m) (b := 64) (by omega)) ⟨_, w⟩
theorem yk_rem16 {post : SY → Prop} {s : Nat} {x : Int32} (hs : s < 4) (hp : post (fr, en, ma, wr, st, lf, cd, ta, bg, kc, ob, ol, upd (bk_shl pb (64 * s) 63) (64 * s + 63) x, upd pn s (nI 64), yp, ki, le, go, mk, cb, mb, ml, la, ps, pd, pt, kw, kh, kf, kz, ky, th, pl, md, cr, gc, lc, lr, wh, od, tg, tr, so, bd, wo, be)) :
    ∀ f i, i ≤ 63 → 63 - i < f → wY_remember_16 post (nI s) x fr en ma wr f (nI (64 * s + i)) st lf cd ta bg kc ob ol (bk_shl pb (64 * s) i) pn yp ki le go mk cb mb ml la ps pd pt kw kh kf kz ky th pl md cr gc lc lr wh od tg tr so bd wo be
  | 0, i, _, h => by omega
  | f + 1, i, h1, h2 => by
    have cs : (nI s).toNatClampNeg = s := nI_clamp (by omega)
    have e1 : 64 * nI s + 63 = nI (64 * s + 63) := by rw [bn_mul2, bn_add]
    have c0 : (nI (64 * s + i)).toNatClampNeg = 64 * s + i := nI_clamp (by omega)
    have c1 : (nI (64 * s + i + 1)).toNatClampNeg = 64 * s + i + 1 := nI_clamp (by omega)
    refine br_c (fun g => ⟨pk_in s 4 hs, ?_⟩) (fun g => ?_)
    · rw [e1] at g
      have g := (nI_leI (by omega) (by omega)).mp g
      have : i = 63 := by omega
      subst this
      rw [cs]
      refine nm_e ⟨pk_in s 4 hs, ?_⟩
      have e2 : 64 * nI s + (63 : Int32) = nI (64 * s + 63) := e1
      have c2 : (nI (64 * s + 63)).toNatClampNeg = 64 * s + 63 := nI_clamp (by omega)
      rw [cs, pk_us, e2, c2, bk_uu]
      exact ⟨vp_in_nI (by omega) (by omega), nm_e ⟨pk_in s 4 hs, pk_in s 4 hs, nm_e hp⟩⟩
    · have g : i < 63 := by
        apply Classical.byContradiction
        intro z
        exact g (by rw [e1]; exact nI_le (by omega) (by omega))
      rw [nI_1 (64 * s + i), c0, c1, bk_shl_o, bk_shl_s]
      exact ⟨vp_in_nI (by omega) (by omega), vp_in_nI (by omega) (by omega), nm_e (nm_e (yk_rem16 hs hp f (i + 1) (by omega) (by omega)))⟩
/-- a byte more -/
theorem yk_remember {post : SY → Prop} {s k m : Nat} {wk pb0 pn0 : Nat → Int32} (hs : s < 4) (hk : k ≤ 64)
    (hp : post (fr, en, ma, wr, st, lf, cd, ta, bg, kc, ob, ol, bk_past pb0 wk s k (m + 1), upd pn0 s (nI (min 64 (k + (m + 1)))), yp, ki, le, go, mk, cb, mb, ml, la, ps, pd, pt, kw, kh, kf, kz, ky, th, pl, md, cr, gc, lc, lr, wh, od, tg, tr, so, bd, wo, be)) : wpY_remember post (fr, en, ma, wr, st, lf, cd, ta, bg, kc, ob, ol, bk_past pb0 wk s k m, upd pn0 s (nI (min 64 (k + m))), yp, ki, le, go, mk, cb, mb, ml, la, ps, pd, pt, kw, kh, kf, kz, ky, th, pl, md, cr, gc, lc, lr, wh, od, tg, tr, so, bd, wo, be) (nI s) (wk m) := by
  have cs : (nI s).toNatClampNeg = s := nI_clamp (by omega)
  refine ⟨pk_in s 4 hs, ?_⟩
  rw [cs, pk_us]
  refine pk_eq (min 64 (k + m)) 64 (fun g => ?_) (fun g => ⟨pk_in s 4 hs, ?_⟩)
  · have e64 : 64 * nI s = nI (64 * s) := bn_mul2 s 64
    have w := yk_rem16 (post := post) (pb := bk_past pb0 wk s k m) (pn := upd pn0 s (nI (min 64 (k + m)))) (x := wk m) hs (by
      rw [bk_uu, bk_past_hi pb0 wk s k m hk (by omega) (bk_shl (bk_past pb0 wk s k m) (64 * s) 63) (fun j => rfl)]
      have : min 64 (k + (m + 1)) = 64 := by omega
      rw [this] at hp
      exact hp) 64 0 (by omega) (by omega)
    rw [bk_shl_0] at w
    exact nm_r e64 ⟨64, w⟩
  · have e1 : 64 * nI s + nI (min 64 (k + m)) = nI (64 * s + (k + m)) := by
      rw [bn_mul2, nI_add]
      exact congrArg nI (by omega)
    have c1 : (nI (64 * s + (k + m))).toNatClampNeg = 64 * s + (k + m) := nI_clamp (by omega)
    have e2 : min 64 (k + m) + 1 = min 64 (k + (m + 1)) := by omega
    rw [cs, pk_us, e1, c1, bk_past_lo pb0 wk s k m (by omega), bk_uu, nI_1, e2]
    exact ⟨vp_in_nI (by omega) (by omega), nm_e ⟨pk_in s 4 hs, pk_in s 4 hs, nm_e hp⟩⟩
end REM
