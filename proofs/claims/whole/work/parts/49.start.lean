/-! the start -/
def bk_m1 (n : Nat) : Nat → Int32 := fun j => if j < n then -1 else 0
theorem bk_m1_0 : bk_m1 0 = fun _ => 0 := by
  funext j
  exact if_neg (by omega)
theorem bk_m1_a {n j : Nat} (h : j < n) : bk_m1 n j = -1 := if_pos h
theorem bk_m1_s (n : Nat) : upd (bk_m1 n) n (-1) = bk_m1 (n + 1) := by
  funext j
  unfold upd bk_m1
  by_cases e : j = n
  · have a1 : j < n + 1 := by omega
    rw [if_pos e, if_pos a1]
  · rw [if_neg e]
    by_cases h : j < n
    · have a1 : j < n + 1 := by omega
      rw [if_pos h, if_pos a1]
    · have a1 : ¬ j < n + 1 := by omega
      rw [if_neg h, if_neg a1]
section INIT
variable {B : Nat} {A : Nat → List bk_E} {g : Nat → Nat} {st lf cd bg gv ob ol pb pn xp fh fl fa mk cb mi mb ml pa kb kl kc th pl md cr hc hg hi ib il it qi qc gc lc lr co ta yp ki le go la ps pd pt kw kh kf kz ky wh od tg tr so bd wo be : Nat → Int32} {px fr en ma wr : Int32}
theorem xk_init {post : SX → Prop} (hp : post (px, st, lf, cd, bg, gv, ob, ol, pb, pn, xp, fh, fl, fa, mk, cb, mi, mb, ml, pa, kb, kl, kc, th, pl, md, cr, hc, hg, hi, ib, il, it, qi, qc, gc, lc, bk_m1 6, co)) : ∀ f i, i ≤ 6 → 6 - i < f → wX_init_306 post px f (nI i) st lf cd bg gv ob ol pb pn xp fh fl fa mk cb mi mb ml pa kb kl kc th pl md cr hc hg hi ib il it qi qc gc lc (bk_m1 i) co
  | 0, i, _, h => by omega
  | f + 1, i, h1, h2 => by
    by_cases e : i = 6
    · rw [e]
      exact br_t (nI_le (a := 6) (by omega) (by omega)) hp
    · have ci : (nI i).toNatClampNeg = i := nI_clamp (by omega)
      refine br_f (nI_ge (b := 6) (by omega) (by omega)) ⟨pk_in i 6 (by omega), ?_⟩
      rw [ci, bk_m1_s]
      exact nm_e (nm_r (nI_1 i) (xk_init hp f (i + 1) (by omega) (by omega)))
theorem yk_init352 {post : SY → Prop} (hp : post (fr, en, ma, wr, st, lf, cd, ta, bg, kc, ob, ol, pb, pn, yp, ki, le, go, mk, cb, mb, ml, la, ps, pd, pt, kw, kh, kf, kz, ky, th, pl, md, cr, gc, lc, bk_m1 6, wh, od, tg, tr, so, bd, wo, be)) : ∀ f i, i ≤ 6 → 6 - i < f → wY_init_352 post fr en ma wr f (nI i) st lf cd ta bg kc ob ol pb pn yp ki le go mk cb mb ml la ps pd pt kw kh kf kz ky th pl md cr gc lc (bk_m1 i) wh od tg tr so bd wo be
  | 0, i, _, h => by omega
  | f + 1, i, h1, h2 => by
    by_cases e : i = 6
    · rw [e]
      exact br_t (nI_le (a := 6) (by omega) (by omega)) hp
    · have ci : (nI i).toNatClampNeg = i := nI_clamp (by omega)
      refine br_f (nI_ge (b := 6) (by omega) (by omega)) ⟨pk_in i 6 (by omega), ?_⟩
      rw [ci, bk_m1_s]
      exact nm_e (nm_r (nI_1 i) (yk_init352 hp f (i + 1) (by omega) (by omega)))
theorem yk_init331 {post : SY → Prop} (hp : ∃ m : Nat, wY_init_352 post fr en ma wr m 0 st lf cd ta bg kc ob ol pb pn yp ki le go mk cb mb ml la ps pd pt kw kh kf kz ky th pl md cr gc lc lr (bk_m1 112) od tg tr so bd wo be) : ∀ f i, i ≤ 112 → 112 - i < f → wY_init_331 post fr en ma wr f (nI i) st lf cd ta bg kc ob ol pb pn yp ki le go mk cb mb ml la ps pd pt kw kh kf kz ky th pl md cr gc lc lr (bk_m1 i) od tg tr so bd wo be
  | 0, i, _, h => by omega
  | f + 1, i, h1, h2 => by
    by_cases e : i = 112
    · rw [e]
      exact br_t (nI_le (a := 112) (by omega) (by omega)) hp
    · have ci : (nI i).toNatClampNeg = i := nI_clamp (by omega)
      refine br_f (nI_ge (b := 112) (by omega) (by omega)) ⟨pk_in i 112 (by omega), ?_⟩
      rw [ci, bk_m1_s]
      exact nm_e (nm_r (nI_1 i) (yk_init331 hp f (i + 1) (by omega) (by omega)))
end INIT
theorem bk_S_init : bk_S (1000 * 0) (fun _ => []) (fun _ => 0) (fun _ => 0) (fun _ => 0) (fun _ => 0) (fun _ => 0) (fun _ => 0) (fun _ => 0) (bk_m1 6) (fun _ => 0) (fun _ => 0) (fun _ => 0) (fun _ => 0) (fun _ => 0) (fun _ => 0) (fun _ => 0) (bk_m1 112) (fun _ => 0) (fun _ => 0) (fun _ => 0) (fun _ => 0) (fun _ => 0) 0 0 (fun _ => 0) (fun _ => 0) (fun _ => 0) (fun _ => 0) (fun _ => 0) (fun _ => 0) (fun _ => 0) (fun _ => 0) (fun _ => 0) (fun _ => 0) (fun _ => 0) (fun _ => 0) (fun _ => 0) (fun _ => 0) (fun _ => 0) (fun _ => 0) (fun _ => 0) (fun _ => 0) (fun _ => 0) (fun _ => 0) (fun _ => 0) (fun _ => 0) (fun _ => 0) (fun _ => 0) (fun _ => 0) (fun _ => 0) (fun _ => 0) (fun _ => 0) (fun _ => 0) (fun _ => 0) (fun _ => 0) (fun _ => 0) := by
  have nn : ∀ (p : bk_E), ¬ p ∈ ([] : List bk_E) := fun p => List.not_mem_nil
  have ng : ∀ (i : Nat) (p : bk_E), ¬ ([] : List bk_E)[i]? = some p := fun i p h => by simp at h
  have z0 : (0 : Int32).toInt = 0 := by decide
  refine ⟨⟨⟨⟨?_, ?_, ?_, ?_, ?_, ?_, ?_, ?_⟩, ?_, ?_, ?_, ?_, ?_⟩, ?_, ?_, ⟨bk_By0, bk_By0, bk_By0, bk_By0⟩, fun z _ => ⟨0, by omega, rfl⟩, fun z _ => ⟨0, by omega, rfl⟩, fun z _ => Or.inr (fun r _ _ => rfl), rfl⟩, fun z _ => bk_F_zero rfl rfl rfl rfl rfl⟩
  · exact fun L p _ h => absurd h (nn p)
  · exact fun L _ => List.Pairwise.nil
  · exact fun y hy => Or.inl (bk_m1_a hy)
  · exact fun L M p q _ _ h => absurd h (nn p)
  · exact fun q _ => Or.inl rfl
  · exact ⟨fun L _ => Nat.zero_le _, fun r _ => Nat.zero_le _⟩
  · exact fun r p _ h => absurd h (nn p)
  · exact fun r r' p q _ _ _ h => absurd h (nn p)
  · exact fun t _ => ⟨rfl, fun i p h => absurd h (ng i p)⟩
  · exact fun r _ => Or.inl ⟨rfl, rfl⟩
  · exact fun s _ => ⟨rfl, rfl, Nat.zero_le _, ⟨0, by omega, rfl⟩, ⟨0, by omega, rfl⟩⟩
  · exact fun t ht => Or.inl (bk_m1_a ht)
  · rw [z0]
    omega
  · exact fun r _ => ⟨rfl, fun i p h => absurd h (ng i p)⟩
  · exact fun z _ => ⟨0, by omega, rfl, fun i h => absurd h (by omega)⟩
theorem i_vc0 : wpX_init (fun u => wpY_init (fun v => i_Rel 0 u v)) := by
  unfold wpX_init
  refine ⟨7, ?_⟩
  have w := xk_init (post := fun u => wpY_init (fun v => i_Rel 0 u v)) (px := 0) (st := fun _ => 0) (lf := fun _ => 0) (cd := fun _ => 0) (bg := fun _ => 0) (gv := fun _ => 0) (ob := fun _ => 0) (ol := fun _ => 0) (pb := fun _ => 0) (pn := fun _ => 0) (xp := fun _ => 0) (fh := fun _ => 0) (fl := fun _ => 0) (fa := fun _ => 0) (mk := fun _ => 0) (cb := fun _ => 0) (mi := fun _ => 0) (mb := fun _ => 0) (ml := fun _ => 0) (pa := fun _ => 0) (kb := fun _ => 0) (kl := fun _ => 0) (kc := fun _ => 0) (th := fun _ => 0) (pl := fun _ => 0) (md := fun _ => 0) (cr := fun _ => 0) (hc := fun _ => 0) (hg := fun _ => 0) (hi := fun _ => 0) (ib := fun _ => 0) (il := fun _ => 0) (it := fun _ => 0) (qi := fun _ => 0) (qc := fun _ => 0) (gc := fun _ => 0) (lc := fun _ => 0) (co := fun _ => 0) ?_ 7 0 (by omega) (by omega)
  · rw [bk_m1_0] at w
    exact w
  · show wpY_init _
    unfold wpY_init
    refine ⟨113, ?_⟩
    have y := yk_init331 (post := fun v => i_Rel 0 (0, fun _ => 0, fun _ => 0, fun _ => 0, fun _ => 0, fun _ => 0, fun _ => 0, fun _ => 0, fun _ => 0, fun _ => 0, fun _ => 0, fun _ => 0, fun _ => 0, fun _ => 0, fun _ => 0, fun _ => 0, fun _ => 0, fun _ => 0, fun _ => 0, fun _ => 0, fun _ => 0, fun _ => 0, fun _ => 0, fun _ => 0, fun _ => 0, fun _ => 0, fun _ => 0, fun _ => 0, fun _ => 0, fun _ => 0, fun _ => 0, fun _ => 0, fun _ => 0, fun _ => 0, fun _ => 0, fun _ => 0, fun _ => 0, bk_m1 6, fun _ => 0) v) (fr := 0) (en := 0) (ma := 0) (wr := 0) (st := fun _ => 0) (lf := fun _ => 0) (cd := fun _ => 0) (ta := fun _ => 0) (bg := fun _ => 0) (kc := fun _ => 0) (ob := fun _ => 0) (ol := fun _ => 0) (pb := fun _ => 0) (pn := fun _ => 0) (yp := fun _ => 0) (ki := fun _ => 0) (le := fun _ => 0) (go := fun _ => 0) (mk := fun _ => 0) (cb := fun _ => 0) (mb := fun _ => 0) (ml := fun _ => 0) (la := fun _ => 0) (ps := fun _ => 0) (pd := fun _ => 0) (pt := fun _ => 0) (kw := fun _ => 0) (kh := fun _ => 0) (kf := fun _ => 0) (kz := fun _ => 0) (ky := fun _ => 0) (th := fun _ => 0) (pl := fun _ => 0) (md := fun _ => 0) (cr := fun _ => 0) (gc := fun _ => 0) (lc := fun _ => 0) (od := fun _ => 0) (tg := fun _ => 0) (tr := fun _ => 0) (so := fun _ => 0) (bd := fun _ => 0) (wo := fun _ => 0) (be := fun _ => 0) (lr := fun _ => 0) ⟨7, ?_⟩ 113 0 (by omega) (by omega)
    · rw [bk_m1_0] at y
      exact y
    · have y2 := yk_init352 (post := fun v => i_Rel 0 (0, fun _ => 0, fun _ => 0, fun _ => 0, fun _ => 0, fun _ => 0, fun _ => 0, fun _ => 0, fun _ => 0, fun _ => 0, fun _ => 0, fun _ => 0, fun _ => 0, fun _ => 0, fun _ => 0, fun _ => 0, fun _ => 0, fun _ => 0, fun _ => 0, fun _ => 0, fun _ => 0, fun _ => 0, fun _ => 0, fun _ => 0, fun _ => 0, fun _ => 0, fun _ => 0, fun _ => 0, fun _ => 0, fun _ => 0, fun _ => 0, fun _ => 0, fun _ => 0, fun _ => 0, fun _ => 0, fun _ => 0, fun _ => 0, bk_m1 6, fun _ => 0) v) (fr := 0) (en := 0) (ma := 0) (wr := 0) (st := fun _ => 0) (lf := fun _ => 0) (cd := fun _ => 0) (ta := fun _ => 0) (bg := fun _ => 0) (kc := fun _ => 0) (ob := fun _ => 0) (ol := fun _ => 0) (pb := fun _ => 0) (pn := fun _ => 0) (yp := fun _ => 0) (ki := fun _ => 0) (le := fun _ => 0) (go := fun _ => 0) (mk := fun _ => 0) (cb := fun _ => 0) (mb := fun _ => 0) (ml := fun _ => 0) (la := fun _ => 0) (ps := fun _ => 0) (pd := fun _ => 0) (pt := fun _ => 0) (kw := fun _ => 0) (kh := fun _ => 0) (kf := fun _ => 0) (kz := fun _ => 0) (ky := fun _ => 0) (th := fun _ => 0) (pl := fun _ => 0) (md := fun _ => 0) (cr := fun _ => 0) (gc := fun _ => 0) (lc := fun _ => 0) (wh := bk_m1 112) (od := fun _ => 0) (tg := fun _ => 0) (tr := fun _ => 0) (so := fun _ => 0) (bd := fun _ => 0) (wo := fun _ => 0) (be := fun _ => 0) ⟨fun _ => [], fun _ => 0, 0, fun _ => 0, fun _ => 0, fun _ => 0, fun _ => 0, fun _ => 0, fun _ => 0, fun _ => 0, fun _ => 0, fun _ => 0, fun _ => 0, fun _ => 0, fun _ => 0, fun _ => 0, fun _ => 0, fun _ => 0, fun _ => 0, fun _ => 0, fun _ => 0, fun _ => 0, fun _ => 0, fun _ => 0, fun _ => 0, fun _ => 0, fun _ => 0, fun _ => 0, fun _ => 0, fun _ => 0, fun _ => 0, fun _ => 0, fun _ => 0, fun _ => 0, fun _ => 0, fun _ => 0, fun _ => 0, fun _ => 0, fun _ => 0, bk_m1 6, fun _ => 0, 0, 0, 0, 0, fun _ => 0, fun _ => 0, fun _ => 0, fun _ => 0, fun _ => 0, fun _ => 0, fun _ => 0, fun _ => 0, fun _ => 0, fun _ => 0, fun _ => 0, fun _ => 0, fun _ => 0, fun _ => 0, bk_m1 112, fun _ => 0, fun _ => 0, fun _ => 0, fun _ => 0, fun _ => 0, fun _ => 0, fun _ => 0, rfl, rfl, bk_S_init⟩ 7 0 (by omega) (by omega)
      rw [bk_m1_0] at y2
      exact y2
theorem i_vc_shortest {k : Nat} {u : SX} {v : SY} (I : i_Rel k u v) (hk : k + 5 ≤ 2560) (v1 : Int32) (v2 : Int32) : wpX_shortest (fun r u' => wpY_shortest (fun r' v' => r' = r ∧ i_Rel (k + 5) u' v') v v1 v2) u v1 v2 := by
  obtain ⟨A, g, px, st, lf, cd, bg, gv, ob, ol, pb, pn, xp, fh, fl, fa, mk, cb, mi, mb, ml, pa, kb, kl, kc, th, pl, md, cr, hc, hg, hi, ib, il, it, qi, qc, gc, lc, lr, co, fr, en, ma, wr, ta, yp, ki, le, go, la, ps, pd, pt, kw, kh, kf, kz, ky, wh, od, tg, tr, so, bd, wo, be, rfl, rfl, h⟩ := I
  have same : i_Rel (k + 5) (px, st, lf, cd, bg, gv, ob, ol, pb, pn, xp, fh, fl, fa, mk, cb, mi, mb, ml, pa, kb, kl, kc, th, pl, md, cr, hc, hg, hi, ib, il, it, qi, qc, gc, lc, lr, co) (fr, en, ma, wr, st, lf, cd, ta, bg, kc, ob, ol, pb, pn, yp, ki, le, go, mk, cb, mb, ml, la, ps, pd, pt, kw, kh, kf, kz, ky, th, pl, md, cr, gc, lc, lr, wh, od, tg, tr, so, bd, wo, be) := ⟨A, g, px, st, lf, cd, bg, gv, ob, ol, pb, pn, xp, fh, fl, fa, mk, cb, mi, mb, ml, pa, kb, kl, kc, th, pl, md, cr, hc, hg, hi, ib, il, it, qi, qc, gc, lc, lr, co, fr, en, ma, wr, ta, yp, ki, le, go, la, ps, pd, pt, kw, kh, kf, kz, ky, wh, od, tg, tr, so, bd, wo, be, rfl, rfl, bk_S_mono h (by omega)⟩
  unfold wpX_shortest
  rcases pk_ix v1 (n := 4) (by omega) with a | a | ⟨s, hs, rfl⟩
  · refine xk_isS0 (Or.inl a) (br_t rfl ?_)
    unfold wpY_shortest
    exact yk_in0 (N := 4) (Or.inl a) (br_t rfl ⟨rfl, same⟩)
  · refine xk_isS0 (Or.inr a) (br_t rfl ?_)
    unfold wpY_shortest
    exact yk_in0 (N := 4) (Or.inr a) (br_t rfl ⟨rfl, same⟩)
  · have cs : (nI s).toNatClampNeg = s := nI_clamp (by omega)
    have i4 : vp_in (nI s) 4 := pk_in s 4 hs
    obtain ⟨a, ha, ea⟩ := h.1.2.2.2.2.1 s hs
    refine xk_isS1 hs (br_f (by decide) ?_)
    rcases iv_x (x := v2) (K := a) (by omega) with bad | ⟨n, hn1, hna, rfl⟩
    · by_cases q : v2 < 1
      · refine br_t q ?_
        unfold wpY_shortest
        exact yk_in1 (N := 4) hs (by omega) (br_f (by decide) (br_t q ⟨rfl, same⟩))
      · have q2 : ¬ v2 ≤ nI a := by
          rcases bad with w | w
          · exact absurd w q
          · exact Int32.not_le.mpr w
        refine br_f q ⟨i4, ?_⟩
        rw [cs, ea]
        refine br_f q2 ?_
        unfold wpY_shortest
        refine yk_in1 (N := 4) hs (by omega) (br_f (by decide) (br_f q ⟨i4, ?_⟩))
        rw [cs, ea]
        exact br_f q2 ⟨rfl, same⟩
    · obtain ⟨o, rfl⟩ : ∃ o, a = o + n := ⟨a - n, by omega⟩
      have e1 : nI (o + n) - nI n = nI o := (pk_sub (by omega)).trans (congrArg nI (by omega))
      have co' : (nI o).toNatClampNeg = o := nI_clamp (by omega)
      obtain ⟨cF, h0, hX, hY⟩ := lk_short (s := s) (o := o) (n := n) (px := px) (st := st) (lf := lf) (cd := cd) (bg := bg) (gv := gv) (ob := ob) (ol := ol) (pb := pb) (pn := pn) (xp := xp) (fh := fh) (fl := fl) (fa := fa) (mk := mk) (cb := cb) (mi := mi) (mb := mb) (ml := ml) (pa := pa) (kb := kb) (kl := kl) (kc := kc) (th := th) (pl := pl) (md := md) (cr := cr) (hc := hc) (hg := hg) (hi := hi) (ib := ib) (il := il) (it := it) (qi := qi) (qc := qc) (gc := gc) (lc := lc) (lr := lr) (fr := fr) (en := en) (ma := ma) (wr := wr) (ta := ta) (yp := yp) (ki := ki) (le := le) (go := go) (la := la) (ps := ps) (pd := pd) (pt := pt) (kw := kw) (kh := kh) (kf := kf) (kz := kz) (ky := ky) (wh := wh) (od := od) (tg := tg) (tr := tr) (so := so) (bd := bd) (wo := wo) hs (by omega) n 0 (bk_c0 o 130) (bk_c0 o 1000) (fun q => if q = o then 0 else 1 + (q - o)) (by omega) (fun q x y => ⟨bk_lit_c0 (by omega) (by omega) x y, bk_lit_c0 (by omega) (by omega) x y⟩)
      have h1 := h0 (if_pos rfl)
      refine br_f (nI_nlt (b := 1) hn1 (by omega)) ⟨i4, ?_⟩
      rw [cs, ea]
      refine br_t (nI_le hna (by omega)) ⟨i4, nm_e (nm_r e1 ⟨pk_in o 65 (by omega), ?_⟩)⟩
      rw [co']
      refine nm_e (nm_r (nI_1 o) ⟨n + 1, xk_s51 (i := 0) (by omega) (fun co2 h2 => ⟨n + 1, hX _ co2 h2 (fun co2 h3 => ?_) (n + 1) (by omega)⟩) (n + 1) _ (fun q x y => ?_) (by omega) (by omega)⟩)
      rotate_left
      · have : q = o := by omega
        rw [this, pk_us, bk_c0_a]
        exact ⟨rfl, by omega⟩
      · show wpY_shortest _ _ _ _
        unfold wpY_shortest
        refine yk_in1 (N := 4) hs (by omega) (br_f (by decide) (br_f (nI_nlt (b := 1) hn1 (by omega)) ⟨i4, ?_⟩))
        rw [cs, ea]
        refine br_t (nI_le hna (by omega)) (nm_r (bn_mul2 s 64) ⟨i4, nm_r e1 ⟨n + 1, yk_s43 (i := 0) (by omega) (fun be2 h4 => ⟨n + 1, hY _ be2 h4 (fun be2 h5 => ?_) (n + 1) (by omega)⟩) (n + 1) be (fun q x y => ?_) (by omega) (by omega)⟩⟩)
        rotate_left
        · have : q = o := by omega
          dsimp only
          rw [this, Nat.sub_self, bk_c0_a, h.1.2.2.2.2.2.2.2]
          exact ⟨rfl, by omega⟩
        · have h6 := (h5 o (by omega) (by omega)).1
          dsimp only at h6
          rw [Nat.sub_self, h1] at h6
          obtain ⟨⟨s1, s2, s3, s4, s5, s6, s7, _⟩, hF⟩ := bk_S_mono h (show 1000 * k ≤ 1000 * (k + 5) by omega)
          exact ⟨rfl, A, g, px, st, lf, cd, bg, gv, ob, ol, pb, pn, xp, fh, fl, fa, mk, cb, mi, mb, ml, pa, kb, kl, kc, th, pl, md, cr, hc, hg, hi, ib, il, it, qi, qc, gc, lc, lr, co2, fr, en, ma, wr, ta, yp, ki, le, go, la, ps, pd, pt, kw, kh, kf, kz, ky, wh, od, tg, tr, so, bd, wo, be2, rfl, rfl, ⟨s1, s2, s3, s4, s5, s6, s7, h6⟩, hF⟩
