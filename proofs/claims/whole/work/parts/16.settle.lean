/-! which hold: the two searches -/
def bk_V (s r0 i0 r i : Nat) : Prop := r < 16 ∧ r / 4 = s ∧ i < 5 ∧ (r < r0 ∨ (r = r0 ∧ i < i0))
section FIND
variable {B : Nat} {A : Nat → List bk_E} {g : Nat → Nat} {st lf cd bg gv ob ol pb pn xp fh fl fa mk cb mi mb ml pa kb kl kc th pl md cr hc hg hi ib il it qi qc gc lc lr co ta yp ki le go la ps pd pt kw kh kf kz ky wh od tg tr so bd wo be : Nat → Int32} {px fr en ma wr : Int32}
theorem xk_fh22 {post : Int32 → Prop} {J5 : Int32 → Int32 → Prop} {s s' n : Nat} (h : bk_C B A g st ol th pl md cr lr gv ib il it qi qc ta wh od tg tr so bd fr en) (rh : bk_RH A hi hg hc) (hB : B ≤ 100000000) (hs : s < 4) (hs' : s' < 4) (hn : n < 256)
    (hend : ∀ o, bk_XB A n (bk_V s (s * 4 + s') (A (3 + (s * 4 + s'))).length) o → J5 o (nI (s' + 1))) :
    ∀ (f i : Nat) (o : Int32), i ≤ (A (3 + (s * 4 + s'))).length → (A (3 + (s * 4 + s'))).length - i < f → bk_XB A n (bk_V s (s * 4 + s') i) o →
      wX_findHeld_22 post J5 (nI s) (nI n) (nI s') (nI (s * 4 + s')) px st lf cd bg gv ob ol pb pn xp fh fl fa mk cb mi mb ml pa kb kl kc th pl md cr hc hg hi ib il it qi qc gc lc lr co f o (nI i)
  | 0, i, o, _, h2, _ => by omega
  | f + 1, i, o, h1, h2, hb => by
    have hr : s * 4 + s' < 16 := by omega
    have h5 := (dk_len h).2 _ hr
    have hc' := (rh _ hr).1
    have cr' : (nI (s * 4 + s')).toNatClampNeg = s * 4 + s' := nI_clamp (by omega)
    refine ⟨pk_in (s * 4 + s') 16 hr, ?_⟩
    rw [cr', hc']
    refine pk_le _ i (fun g => nm_r (nI_1 s') ?_) (fun g => ?_)
    · have : i = (A (3 + (s * 4 + s'))).length := by omega
      subst this
      exact hend o hb
    · have ix : nI (s * 4 + s') * 5 + nI i = nI ((s * 4 + s') * 5 + i) := by rw [bn_mul, nI_add]
      have ci : (nI ((s * 4 + s') * 5 + i)).toNatClampNeg = (s * 4 + s') * 5 + i := nI_clamp (by omega)
      have i80 : vp_in (nI ((s * 4 + s') * 5 + i)) 80 := vp_in_nI (by omega) (by omega)
      have hp : (A (3 + (s * 4 + s')))[i]? = some ((A (3 + (s * 4 + s')))[i]) := List.getElem?_eq_some_iff.mpr ⟨g, rfl⟩
      generalize (A (3 + (s * 4 + s')))[i] = p at hp
      have hgp := ((rh _ hr).2 i p hp).2
      have hmem : p ∈ A (3 + (s * 4 + s')) := List.mem_of_getElem? hp
      have gl := (h.1.2.2.2.2.2.2.1 _ p hr hmem).1
      have gb := (h.2.2.2.1 ((s * 4 + s') / 4) (by omega)).2.2.1
      have eV : ∀ r i', bk_V s (s * 4 + s') (i + 1) r i' ↔ (bk_V s (s * 4 + s') i r i' ∨ (r = s * 4 + s' ∧ i' = i)) := by
        intro r i'
        unfold bk_V
        omega
      have next : ∀ o', bk_XB A n (bk_V s (s * 4 + s') (i + 1)) o' → wX_findHeld_22 post J5 (nI s) (nI n) (nI s') (nI (s * 4 + s')) px st lf cd bg gv ob ol pb pn xp fh fl fa mk cb mi mb ml pa kb kl kc th pl md cr hc hg hi ib il it qi qc gc lc lr co f o' (nI i + 1) := by
        intro o' ho'
        rw [nI_1]
        exact xk_fh22 h rh hB hs hs' hn hend f (i + 1) o' (by omega) (by omega) ho'
      refine nm_r ix ?_
      -- the last step: is it this tag, and older
      have last : ∀ z0 : Int32, (p.2.2 % 256 = n → z0 ≠ 0 → bk_XB A n (bk_V s (s * 4 + s') (i + 1)) (nI ((s * 4 + s') * 5 + i))) → (p.2.2 % 256 = n → z0 = 0 → bk_XB A n (bk_V s (s * 4 + s') (i + 1)) o) →
          wX_findHeld_68 post J5 (wX_findHeld_22 post J5 (nI s) (nI n) (nI s') (nI (s * 4 + s')) px st lf cd bg gv ob ol pb pn xp fh fl fa mk cb mi mb ml pa kb kl kc th pl md cr hc hg hi ib il it qi qc gc lc lr co f) (nI s) (nI n) o (nI s') (nI (s * 4 + s')) (nI i) (nI ((s * 4 + s') * 5 + i)) z0 px st lf cd bg gv ob ol pb pn xp fh fl fa mk cb mi mb ml pa kb kl kc th pl md cr hc hg hi ib il it qi qc gc lc lr co := by
        intro z0 hz1 hz0
        refine ⟨i80, ?_⟩
        rw [ci, hgp, bn_255 _ (by omega)]
        refine pk_eq (p.2.2 % 256) n (fun e => ?_) (fun e => nm_e (next o (xb_no hb hp e eV)))
        by_cases z : z0 = 0
        · exact br_t z (nm_e (next o (hz0 e z)))
        · exact br_f z (nm_e (next _ (hz1 e z)))
      by_cases ho : o < 0
      · refine br_t ho (last 1 (fun e _ => ?_) (fun _ z => absurd z (by decide)))
        have om : o = -1 := by
          rcases hb with ⟨x, _⟩ | ⟨r, i', q, v, _, x, _⟩
          · exact x
          · rw [x] at ho
            unfold bk_V at v
            exact absurd ho (nI_pos (by omega))
        rw [om] at hb
        exact xb_new hb hp e eV (fun r i' v => by unfold bk_V at v; omega)
      · obtain ⟨r, i', q, v, hq, eo, hqn, least⟩ := xb_at hb ho
        have hr16 : r < 16 := v.1
        have h5' := (dk_len h).2 r hr16
        have hi' := bk_lt_of_some hq
        have co : (nI (r * 5 + i')).toNatClampNeg = r * 5 + i' := nI_clamp (by omega)
        have hgq := ((rh _ hr16).2 i' q hq).2
        have gl' := (h.1.2.2.2.2.2.2.1 _ q hr16 (List.mem_of_getElem? hq)).1
        have gb' := (h.2.2.2.1 (r / 4) (by omega)).2.2.1
        refine br_f ho ⟨i80, by rw [eo]; exact pk_in (r * 5 + i') 80 (by omega), ?_⟩
        rw [ci, hgp, show hg o.toNatClampNeg = nI q.2.2 by rw [eo, co]; exact hgq]
        refine pk_le q.2.2 p.2.2 (fun e => last 0 (fun _ z => absurd rfl z) (fun _ _ => ?_)) (fun e => last 1 (fun e' _ => ?_) (fun _ z => absurd z (by decide)))
        · rw [eo]
          exact xb_ge v hq hqn least hp e eV
        · exact xb_lt (r := r) (i := i') least hp e' e eV
theorem xk_findHeld {post : Int32 → Prop} {s n : Nat} (h : bk_C B A g st ol th pl md cr lr gv ib il it qi qc ta wh od tg tr so bd fr en) (rh : bk_RH A hi hg hc) (hB : B ≤ 100000000) (hs : s < 4) (hn : n < 256) (hp : ∀ o, bk_XB A n (fun r _ => r / 4 = s ∧ r < 16) o → post o) : wpX_findHeld post (px, st, lf, cd, bg, gv, ob, ol, pb, pn, xp, fh, fl, fa, mk, cb, mi, mb, ml, pa, kb, kl, kc, th, pl, md, cr, hc, hg, hi, ib, il, it, qi, qc, gc, lc, lr, co) (nI s) (nI n) := by
  have key : ∀ (f s' : Nat) (o : Int32), s' ≤ 4 → 4 - s' < f → bk_XB A n (bk_V s (s * 4 + s') 0) o → wX_findHeld_5 post (nI s) (nI n) px st lf cd bg gv ob ol pb pn xp fh fl fa mk cb mi mb ml pa kb kl kc th pl md cr hc hg hi ib il it qi qc gc lc lr co f o (nI s') := by
    intro f
    induction f with
    | zero => intro s' o _ h2; omega
    | succ f ih =>
      intro s' o h1 h2 hb
      refine pk_le 4 s' (fun g => ?_) (fun g => ?_)
      · refine hp o (xb_ext hb ?_)
        intro r i p hq
        have hi' := bk_lt_of_some hq
        unfold bk_V
        constructor
        · intro z; exact ⟨z.2.1, z.1⟩
        · intro z
          have h5' := (dk_len h).2 r z.2
          omega
      · have ix : nI s * 4 + nI s' = nI (s * 4 + s') := by rw [bn_mul, nI_add]
        refine nm_r ix ⟨(A (3 + (s * 4 + s'))).length + 1, xk_fh22 h rh hB hs g hn (fun o' ho' => ?_) _ 0 o (by omega) (by omega) hb⟩
        refine ih (s' + 1) o' (by omega) (by omega) (xb_ext ho' ?_)
        intro r i p hq
        have hi' := bk_lt_of_some hq
        unfold bk_V
        constructor
        · intro z; omega
        · intro z
          refine ⟨z.1, z.2.1, z.2.2.1, ?_⟩
          rcases z.2.2.2 with w | w
          · by_cases e : r = s * 4 + s'
            · right; subst e; exact ⟨rfl, hi'⟩
            · left; omega
          · omega
  refine ⟨5, key 5 0 (-1) (by omega) (by omega) (xb_0 (fun r i v => ?_))⟩
  unfold bk_V at v
  omega
theorem yk_answer6 {post : SY → Prop} {s n : Nat} {x3 : Int32} (hs : s < 4)
    (hp : ∀ b, bk_Best (fun j => nI (3 + 4 * s) ≤ wh j ∧ wh j < nI (3 + 4 * s + 4) ∧ tg j = nI n) (fun j => (od j).toInt) 112 b →
      (((0 ≤ b → (vp_in b 112 ∧ (∀ x5, x5 = (wh b.toNatClampNeg) - 3 → (vp_in b 112 ∧ (∀ x6, x6 = od b.toNatClampNeg → (∃ n129 : Nat, wY_answer_129 post x3 x5 x6 n129 b 1 fr en ma wr st lf cd ta bg kc ob ol pb pn yp ki le go mk cb mb ml la ps pd pt kw kh kf kz ky th pl md cr gc lc lr wh od tg tr so bd wo be)))))) ∧ (¬ 0 ≤ b → (post (fr, en, ma, wr, st, lf, cd, ta, bg, kc, ob, ol, pb, pn, yp, ki, le, go, mk, cb, mb, ml, la, ps, pd, pt, kw, kh, kf, kz, ky, th, pl, md, cr, gc, lc, lr, wh, od, tg, tr, so, bd, wo, be)))))) :
    ∀ (f i : Nat) (b : Int32), i ≤ 112 → 112 - i < f → bk_Best (fun j => nI (3 + 4 * s) ≤ wh j ∧ wh j < nI (3 + 4 * s + 4) ∧ tg j = nI n) (fun j => (od j).toInt) i b → wY_answer_6 post (nI s) (nI n) x3 fr en ma wr st lf cd ta bg kc ob ol pb pn yp ki le go mk cb mb ml la ps pd pt kw kh kf kz ky th pl md cr gc lc lr wh od tg tr so bd wo be f b (nI i)
  | 0, i, b, h1, h2, _ => by omega
  | f + 1, i, b, h1, h2, hb => by
    have cl : (nI i).toNatClampNeg = i := nI_clamp (by omega)
    have e1 : 3 + 4 * nI s = nI (3 + 4 * s) := by rw [bn_mul2, bn_add2]
    have e2 : nI (3 + 4 * s) + 4 = nI (3 + 4 * s + 4) := bn_add _ 4
    have iv : i < 112 → vp_in (nI i) 112 := fun h => pk_in i 112 h
    have next : ∀ b', bk_Best (fun j => nI (3 + 4 * s) ≤ wh j ∧ wh j < nI (3 + 4 * s + 4) ∧ tg j = nI n) (fun j => (od j).toInt) (i + 1) b' → i < 112 → wY_answer_6 post (nI s) (nI n) x3 fr en ma wr st lf cd ta bg kc ob ol pb pn yp ki le go mk cb mb ml la ps pd pt kw kh kf kz ky th pl md cr gc lc lr wh od tg tr so bd wo be f b' (nI i + 1) := by
      intro b' hb' hi'
      rw [nI_1]
      exact yk_answer6 hs hp f (i + 1) b' (by omega) (by omega) hb'
    refine pk_le 112 i (fun g => ?_) (fun g => ⟨iv g, ?_⟩)
    · have : i = 112 := by omega
      subst this
      exact hp b hb
    · rw [cl, e1, e2]
      have no : ¬ (nI (3 + 4 * s) ≤ wh i ∧ wh i < nI (3 + 4 * s + 4) ∧ tg i = nI n) → wY_answer_61 post (wY_answer_6 post (nI s) (nI n) x3 fr en ma wr st lf cd ta bg kc ob ol pb pn yp ki le go mk cb mb ml la ps pd pt kw kh kf kz ky th pl md cr gc lc lr wh od tg tr so bd wo be f) (nI s) (nI n) x3 b (nI i) 0 fr en ma wr st lf cd ta bg kc ob ol pb pn yp ki le go mk cb mb ml la ps pd pt kw kh kf kz ky th pl md cr gc lc lr wh od tg tr so bd wo be := by
        intro z
        exact br_t rfl (nm_e (next b (bk_best_no hb z) g))
      by_cases w1 : wh i < nI (3 + 4 * s)
      · exact br_t w1 (no (fun z => Int32.not_lt.mpr z.1 w1))
      · refine br_f w1 ⟨iv g, ?_⟩
        by_cases w2 : nI (3 + 4 * s + 4) ≤ wh i
        · exact br_t w2 (no (fun z => Int32.not_lt.mpr w2 z.2.1))
        · refine br_f w2 ⟨iv g, ?_⟩
          by_cases w3 : tg i = nI n
          · refine br_t w3 (br_f (by decide) ?_)
            have P : nI (3 + 4 * s) ≤ wh i ∧ wh i < nI (3 + 4 * s + 4) ∧ tg i = nI n := ⟨Int32.not_lt.mp w1, Int32.not_le.mp w2, w3⟩
            by_cases nb : b < 0
            · exact br_t nb (nm_e (next (nI i) (bk_best_new (by omega) hb P nb) g))
            · obtain ⟨c, hc', rfl⟩ := bk_best_at hb nb
              refine br_f nb ⟨iv g, pk_in c 112 (by omega), ?_⟩
              rw [cl, nI_clamp (show c < 2 ^ 31 by omega)]
              by_cases q : od c ≤ od i
              · exact br_t q (nm_e (next (nI c) (bk_best_ge (by omega) hc' hb (Int32.le_iff_toInt_le.mp q)) g))
              · exact br_f q (nm_e (next (nI i) (bk_best_lt (by omega) hc' hb P (Int32.lt_iff_toInt_lt.mp (Int32.not_le.mp q))) g))
          · exact br_f w3 (no (fun z => w3 z.2.2))
end FIND
