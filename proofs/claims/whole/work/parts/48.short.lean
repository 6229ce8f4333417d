/-! the least that the end of the past can take -/
def bk_low (c : Nat → Nat) (p v : Nat) : Nat → Nat := fun q => if q = p then min (c q) v else c q
def bk_lit (c : Nat → Nat) (p k : Nat) : Nat → Nat := fun q => if p < q ∧ q ≤ p + k then min (c q) (c p + 1 + (q - p)) else c q
theorem bk_lit_p (c : Nat → Nat) (p k : Nat) : bk_lit c p k p = c p := if_neg (by omega)
theorem bk_lit_0 (c : Nat → Nat) (p : Nat) : bk_lit c p 0 = c := by
  funext q
  exact if_neg (by omega)
theorem bk_lit_s (c : Nat → Nat) (p k : Nat) : bk_low (bk_lit c p k) (p + k + 1) (c p + 1 + (k + 1)) = bk_lit c p (k + 1) := by
  funext q
  unfold bk_low bk_lit
  by_cases e : q = p + k + 1
  · have a1 : ¬ (p < q ∧ q ≤ p + k) := by omega
    have a2 : p < q ∧ q ≤ p + (k + 1) := by omega
    have a3 : q - p = k + 1 := by omega
    rw [if_pos e, if_neg a1, if_pos a2, a3]
  · rw [if_neg e]
    by_cases h : p < q ∧ q ≤ p + k
    · have a2 : p < q ∧ q ≤ p + (k + 1) := by omega
      rw [if_pos h, if_pos a2]
    · have a2 : ¬ (p < q ∧ q ≤ p + (k + 1)) := by omega
      rw [if_neg h, if_neg a2]
def bk_c0 (o v : Nat) : Nat → Nat := fun q => if q = o then 0 else v
theorem bk_c0_a (o v : Nat) : bk_c0 o v o = 0 := if_pos rfl
theorem bk_c0_b {o v q : Nat} (h : q ≠ o) : bk_c0 o v q = v := if_neg h
theorem bk_lit_c0 {o v n q : Nat} (hv : 65 ≤ v) (hn : n ≤ 64) (a : o ≤ q) (b : q ≤ o + n) : bk_lit (bk_c0 o v) (o + 0) n q = (if q = o then 0 else 1 + (q - o)) := by
  unfold bk_lit
  rw [Nat.add_zero, bk_c0_a]
  by_cases e : q = o
  · have a1 : ¬ (o < q ∧ q ≤ o + n) := by omega
    rw [if_neg a1, if_pos e, e, bk_c0_a]
  · have a1 : o < q ∧ q ≤ o + n := by omega
    rw [if_pos a1, if_neg e, bk_c0_b e]
    omega
def bk_R (o e : Nat) (c : Nat → Nat) (co : Nat → Int32) : Prop := ∀ q, o ≤ q → q ≤ e → co q = nI (c q) ∧ c q ≤ 1000
theorem bk_R_eq {o e : Nat} {c c' : Nat → Nat} {co : Nat → Int32} (h : bk_R o e c co) (he : ∀ q, o ≤ q → q ≤ e → c q = c' q) : bk_R o e c' co := by
  intro q a b
  rw [← he q a b]
  exact h q a b
theorem bk_R_low {o e p v : Nat} {c : Nat → Nat} {co : Nat → Int32} (h : bk_R o e c co) : (c p ≤ v → bk_R o e (bk_low c p v) co) ∧ (v < c p → bk_R o e (bk_low c p v) (upd co p (nI v))) := by
  constructor
  · intro l q a b
    obtain ⟨x, y⟩ := h q a b
    unfold bk_low
    by_cases e1 : q = p
    · rw [if_pos e1, Nat.min_eq_left (by rw [e1]; exact l)]; exact ⟨x, y⟩
    · rw [if_neg e1]; exact ⟨x, y⟩
  · intro l q a b
    obtain ⟨x, y⟩ := h q a b
    unfold bk_low
    by_cases e1 : q = p
    · rw [e1] at y
      rw [if_pos e1, e1, pk_us, Nat.min_eq_right (by omega)]; exact ⟨rfl, by omega⟩
    · rw [if_neg e1, pk_un e1]; exact ⟨x, y⟩
theorem bk_R_y {o e j : Nat} {v : Int32} {c : Nat → Nat} {be : Nat → Int32} (h : bk_R o e c (upd (fun q => be (q - o)) (o + j) v)) : bk_R o e c (fun q => upd be j v (q - o)) := by
  intro q a b
  have w := h q a b
  show upd be j v (q - o) = _ ∧ _
  by_cases e1 : q = o + j
  · have e2 : q - o = j := by omega
    rw [e2, pk_us]
    rw [e1, pk_us] at w
    rw [e1]
    exact w
  · have e2 : q - o ≠ j := by omega
    rw [pk_un e1] at w
    rw [pk_un e2]
    exact w
theorem bk_Cp_ex (w : Nat → Int32) (e p : Nat) (S : Nat → Prop) (c0 : Nat → Nat) : ∃ c, bk_Cp w e p S c0 c := by
  classical
  exact ⟨fun q => if (∃ f, S f ∧ bk_M w e p f q) then min (c0 q) (c0 p + 2) else c0 q, fun q => ⟨fun h => if_pos h, fun h => if_neg h⟩⟩
theorem bk_Cp_congr {w : Nat → Int32} {e p : Nat} {S T : Nat → Prop} {c0 c : Nat → Nat} (h : bk_Cp w e p S c0 c) (st : ∀ f, S f ↔ T f) : bk_Cp w e p T c0 c := by
  have : S = T := funext fun f => propext (st f)
  rw [← this]
  exact h
theorem bk_Cq_lift {w : Nat → Int32} {e p f z z' : Nat} {S : Nat → Prop} {c0 c : Nat → Nat} (h : bk_Cq w e p S f z c0 c) (hz : z ≤ p + 1) (hz' : z' ≤ p + 1) : bk_Cq w e p S f z' c0 c := by
  intro q
  refine ⟨?_, fun n => (h q).2 ?_⟩
  · rintro (x | ⟨x, y⟩)
    · exact (h q).1 (Or.inl x)
    · have := x.1; omega
  · rintro (x | ⟨x, y⟩)
    · exact n (Or.inl x)
    · have := x.1; omega
section SHORT
variable {B : Nat} {A : Nat → List bk_E} {g : Nat → Nat} {st lf cd bg gv ob ol pb pn xp fh fl fa mk cb mi mb ml pa kb kl kc th pl md cr hc hg hi ib il it qi qc gc lc lr co ta yp ki le go la ps pd pt kw kh kf kz ky wh od tg tr so bd wo be : Nat → Int32} {px fr en ma wr : Int32}
theorem xk_lower {post : SX → Prop} {o e p v : Nat} {c : Nat → Nat} (h : bk_R o e c co) (hp : o ≤ p) (hpe : p ≤ e) (he : e ≤ 64) (hv : v ≤ 10000) (k : ∀ co, bk_R o e (bk_low c p v) co → post (px, st, lf, cd, bg, gv, ob, ol, pb, pn, xp, fh, fl, fa, mk, cb, mi, mb, ml, pa, kb, kl, kc, th, pl, md, cr, hc, hg, hi, ib, il, it, qi, qc, gc, lc, lr, co)) : wpX_lowerCost post (px, st, lf, cd, bg, gv, ob, ol, pb, pn, xp, fh, fl, fa, mk, cb, mi, mb, ml, pa, kb, kl, kc, th, pl, md, cr, hc, hg, hi, ib, il, it, qi, qc, gc, lc, lr, co) (nI p) (nI v) := by
  have cp : (nI p).toNatClampNeg = p := nI_clamp (by omega)
  have ip : vp_in (nI p) 65 := pk_in p 65 (by omega)
  obtain ⟨x, y⟩ := h p hp hpe
  unfold wpX_lowerCost
  refine ⟨ip, ?_⟩
  rw [cp, x]
  exact pk_le (c p) v (fun z => k co ((bk_R_low h).1 z)) (fun z => ⟨ip, nm_e (k _ ((bk_R_low h).2 z))⟩)
theorem yk_better {post : SY → Prop} {o e j v : Nat} {c : Nat → Nat} (h : bk_R o e c (fun q => be (q - o))) (hj : o + j ≤ e) (he : e ≤ 64) (hv : v ≤ 10000) (k : ∀ be, bk_R o e (bk_low c (o + j) v) (fun q => be (q - o)) → post (fr, en, ma, wr, st, lf, cd, ta, bg, kc, ob, ol, pb, pn, yp, ki, le, go, mk, cb, mb, ml, la, ps, pd, pt, kw, kh, kf, kz, ky, th, pl, md, cr, gc, lc, lr, wh, od, tg, tr, so, bd, wo, be)) : wpY_better post (fr, en, ma, wr, st, lf, cd, ta, bg, kc, ob, ol, pb, pn, yp, ki, le, go, mk, cb, mb, ml, la, ps, pd, pt, kw, kh, kf, kz, ky, th, pl, md, cr, gc, lc, lr, wh, od, tg, tr, so, bd, wo, be) (nI j) (nI v) := by
  have cp : (nI j).toNatClampNeg = j := nI_clamp (by omega)
  have ip : vp_in (nI j) 65 := pk_in j 65 (by omega)
  obtain ⟨x, y⟩ := h (o + j) (by omega) hj
  have ej : o + j - o = j := by omega
  dsimp only at x
  rw [ej] at x
  unfold wpY_better
  refine ⟨ip, ?_⟩
  rw [cp, x]
  exact pk_le (c (o + j)) v (fun z => k be ((bk_R_low h).1 z)) (fun z => ⟨ip, nm_e (k _ (bk_R_y ((bk_R_low h).2 z)))⟩)
theorem xk_lits {post : SX → Prop} {o e p : Nat} {c : Nat → Nat} (hop : o ≤ p) (hpe : p ≤ e) (he : e ≤ 64) (k : ∀ co, bk_R o e (bk_lit c p (e - p)) co → post (px, st, lf, cd, bg, gv, ob, ol, pb, pn, xp, fh, fl, fa, mk, cb, mi, mb, ml, pa, kb, kl, kc, th, pl, md, cr, hc, hg, hi, ib, il, it, qi, qc, gc, lc, lr, co)) :
    ∀ (f i : Nat) (co : Nat → Int32), bk_R o e (bk_lit c p i) co → i ≤ e - p → e - p - i < f → wX_tryLiterals_4 post (nI p) (nI e) f (nI (p + i + 1)) px st lf cd bg gv ob ol pb pn xp fh fl fa mk cb mi mb ml pa kb kl kc th pl md cr hc hg hi ib il it qi qc gc lc lr co
  | 0, i, co, _, _, h => by omega
  | f + 1, i, co, h, h1, h2 => by
    have ca : (nI p).toNatClampNeg = p := nI_clamp (by omega)
    obtain ⟨x, y⟩ := h p hop hpe
    rw [bk_lit_p] at x y
    by_cases l : i = e - p
    · rw [l] at h
      exact br_t (nI_lt (by omega) (by omega)) (k co h)
    · refine br_f (nI_nlt (by omega) (by omega)) ⟨pk_in p 65 (by omega), ?_⟩
      have ev : co p + 1 + nI (p + i + 1) - nI p = nI (c p + 1 + (i + 1)) := by
        rw [x, nI_1, nI_add, pk_sub (by omega)]
        exact congrArg nI (by omega)
      rw [ca, ev]
      refine xk_lower (c := bk_lit c p i) (o := o) (e := e) h (by omega) (by omega) he (by omega) (fun co h' => ?_)
      rw [bk_lit_s] at h'
      exact nm_r (nI_1 _) (xk_lits hop hpe he k f (i + 1) co h' (by omega) (by omega))
theorem xk_tryLit {post : SX → Prop} {o e p : Nat} {c : Nat → Nat} (h : bk_R o e c co) (hop : o ≤ p) (hpe : p ≤ e) (he : e ≤ 64) (k : ∀ co, bk_R o e (bk_lit c p (e - p)) co → post (px, st, lf, cd, bg, gv, ob, ol, pb, pn, xp, fh, fl, fa, mk, cb, mi, mb, ml, pa, kb, kl, kc, th, pl, md, cr, hc, hg, hi, ib, il, it, qi, qc, gc, lc, lr, co)) : wpX_tryLiterals post (px, st, lf, cd, bg, gv, ob, ol, pb, pn, xp, fh, fl, fa, mk, cb, mi, mb, ml, pa, kb, kl, kc, th, pl, md, cr, hc, hg, hi, ib, il, it, qi, qc, gc, lc, lr, co) (nI p) (nI e) := by
  unfold wpX_tryLiterals
  exact nm_r (nI_1 _) ⟨e - p + 1, xk_lits hop hpe he k _ 0 co (by rw [bk_lit_0]; exact h) (by omega) (by omega)⟩
theorem xk_cop18 {post : SX → Prop} {J : Int32 → Int32 → (Nat → Int32) → (Nat → Int32) → (Nat → Int32) → (Nat → Int32) → (Nat → Int32) → (Nat → Int32) → (Nat → Int32) → (Nat → Int32) → (Nat → Int32) → (Nat → Int32) → (Nat → Int32) → (Nat → Int32) → (Nat → Int32) → (Nat → Int32) → (Nat → Int32) → (Nat → Int32) → (Nat → Int32) → (Nat → Int32) → (Nat → Int32) → (Nat → Int32) → (Nat → Int32) → (Nat → Int32) → (Nat → Int32) → (Nat → Int32) → (Nat → Int32) → (Nat → Int32) → (Nat → Int32) → (Nat → Int32) → (Nat → Int32) → (Nat → Int32) → (Nat → Int32) → (Nat → Int32) → (Nat → Int32) → (Nat → Int32) → (Nat → Int32) → (Nat → Int32) → (Nat → Int32) → (Nat → Int32) → Prop} {o e p fm s : Nat} {c0 : Nat → Nat} (hs : s < 4) (hop : o ≤ p) (hpe : p < e) (he : e ≤ 64) (hfm : fm < p)
    (k : ∀ (co : Nat → Int32) (c : Nat → Nat), bk_R o e c co → bk_Cp (fun j => pb (64 * s + j)) e p (fun f => f < fm + 1) c0 c → J (nI (fm + 1)) px st lf cd bg gv ob ol pb pn xp fh fl fa mk cb mi mb ml pa kb kl kc th pl md cr hc hg hi ib il it qi qc gc lc lr co) :
    ∀ (f m : Nat) (co : Nat → Int32) (c : Nat → Nat), m ≤ 33 → p + m ≤ e → bk_R o e c co → bk_Cq (fun j => pb (64 * s + j)) e p (fun f => f < fm) fm (p + m) c0 c → (∀ i, i < m → pb (64 * s + (fm + i)) = pb (64 * s + (p + i))) → 34 - m < f →
      wX_tryCopies_18 post J (nI p) (nI e) (nI (64 * s)) (nI fm) f (nI (m + 1)) px st lf cd bg gv ob ol pb pn xp fh fl fa mk cb mi mb ml pa kb kl kc th pl md cr hc hg hi ib il it qi qc gc lc lr co
  | 0, m, co, c, _, _, _, _, _, h => by omega
  | f + 1, m, co, c, h1, h2, hR, hC, hm, h3 => by
    have cF : (∀ q, bk_M (fun j => pb (64 * s + j)) e p fm q → q ≤ p + m) → J (nI (fm + 1)) px st lf cd bg gv ob ol pb pn xp fh fl fa mk cb mi mb ml pa kb kl kc th pl md cr hc hg hi ib il it qi qc gc lc lr co := fun hz => k co c hR (bk_Cq_out hC hz (fun f' => by show f' < fm + 1 ↔ (f' < fm ∨ f' = fm); omega))
    by_cases g1 : m = 33
    · exact br_t (nI_lt (a := 33) (by omega) (by omega)) (nm_r (nI_1 fm) (cF (fun q M => by have := M.2.1; omega)))
    refine br_f (nI_nlt (a := 33) (by omega) (by omega)) ?_
    have e2 : nI p + nI (m + 1) = nI (p + (m + 1)) := nI_add _ _
    rw [e2]
    by_cases g2 : e < p + (m + 1)
    · exact br_t (nI_lt g2 (by omega)) (nm_r (nI_1 fm) (cF (fun q M => by have := M.2.2.1; omega)))
    refine br_f (nI_nlt (by omega) (by omega)) ?_
    have e3 : nI (64 * s) + nI fm + nI (m + 1) - 1 = nI (64 * s + (fm + m)) := by
      rw [nI_add, nI_add]
      exact (pk_sub (a := 64 * s + fm + (m + 1)) (b := 1) (by omega)).trans (congrArg nI (by omega))
    have e4 : nI (64 * s) + nI p + nI (m + 1) - 1 = nI (64 * s + (p + m)) := by
      rw [nI_add, nI_add]
      exact (pk_sub (a := 64 * s + p + (m + 1)) (b := 1) (by omega)).trans (congrArg nI (by omega))
    have c3 : (nI (64 * s + (fm + m))).toNatClampNeg = 64 * s + (fm + m) := nI_clamp (by omega)
    have c4 : (nI (64 * s + (p + m))).toNatClampNeg = 64 * s + (p + m) := nI_clamp (by omega)
    rw [e3, e4, c3, c4]
    refine ⟨vp_in_nI (by omega) (by omega), vp_in_nI (by omega) (by omega), ?_⟩
    by_cases g3 : pb (64 * s + (fm + m)) = pb (64 * s + (p + m))
    · have hm' : ∀ i, i < m + 1 → pb (64 * s + (fm + i)) = pb (64 * s + (p + i)) := by
        intro i h5
        by_cases e5 : i = m
        · rw [e5]; exact g3
        · exact hm i (by omega)
      refine br_t g3 ?_
      by_cases g4 : m = 0
      · exact br_t (nI_lt (b := 2) (by omega) (by omega)) (nm_r (nI_1 _) (xk_cop18 hs hop hpe he hfm k f (m + 1) co c (by omega) (by omega) hR (bk_Cq_lift hC (by omega) (by omega)) hm' (by omega)))
      · refine br_f (nI_nlt (b := 2) (by omega) (by omega)) ⟨pk_in p 65 (by omega), ?_⟩
        have ca : (nI p).toNatClampNeg = p := nI_clamp (by omega)
        obtain ⟨x, y⟩ := hR p hop (by omega)
        have ec : c p = c0 p := (hC p).2 (by rintro (⟨f', _, M⟩ | ⟨M, _⟩) <;> (have := M.1; omega))
        rw [ec] at x y
        have ev : co p + 2 = nI (c0 p + 2) := by rw [x]; exact nI_add _ 2
        rw [ca, ev]
        refine xk_lower (c := c) (o := o) (e := e) hR (by omega) (by omega) he (by omega) (fun co h' => nm_r (nI_1 _) (xk_cop18 hs hop hpe he hfm k f (m + 1) co _ (by omega) (by omega) h' (bk_Cq_step (z := p + m) hC ?_ ?_ ?_) hm' (by omega)))
        · exact ⟨by omega, by omega, by omega, fun i h5 => hm' i (by omega)⟩
        · exact if_pos rfl
        · exact fun q n => if_neg n
    · refine br_f g3 (nm_r (nI_1 fm) (cF (fun q M => ?_)))
      by_cases g5 : q ≤ p + m
      · exact g5
      · exact absurd (M.2.2.2 m (by omega)) g3
theorem xk_cop9 {post : SX → Prop} {o e p s : Nat} {c0 : Nat → Nat} (hs : s < 4) (hop : o ≤ p) (hpe : p < e) (he : e ≤ 64)
    (k : ∀ (co : Nat → Int32) (c : Nat → Nat), bk_R o e c co → bk_Cp (fun j => pb (64 * s + j)) e p (fun f => f < p) c0 c → post (px, st, lf, cd, bg, gv, ob, ol, pb, pn, xp, fh, fl, fa, mk, cb, mi, mb, ml, pa, kb, kl, kc, th, pl, md, cr, hc, hg, hi, ib, il, it, qi, qc, gc, lc, lr, co)) :
    ∀ (f fm : Nat) (co : Nat → Int32) (c : Nat → Nat), fm ≤ p → bk_R o e c co → bk_Cp (fun j => pb (64 * s + j)) e p (fun f => f < fm) c0 c → p - fm < f → wX_tryCopies_9 post (nI p) (nI e) (nI (64 * s)) f (nI fm) px st lf cd bg gv ob ol pb pn xp fh fl fa mk cb mi mb ml pa kb kl kc th pl md cr hc hg hi ib il it qi qc gc lc lr co
  | 0, fm, co, c, _, _, _, h => by omega
  | f + 1, fm, co, c, h1, hR, hC, h2 => by
    by_cases l : fm = p
    · rw [l] at hC
      exact br_t (nI_le (by omega) (by omega)) (k co c hR hC)
    · exact br_f (nI_ge (by omega) (by omega)) ⟨36, xk_cop18 (m := 0) hs hop hpe he (by omega) (fun co c a b => xk_cop9 hs hop hpe he k f (fm + 1) co c (by omega) a b (by omega)) 36 co c (by omega) (by omega) hR (bk_Cq_in hC (by omega)) (fun i h => absurd h (by omega)) (by omega)⟩
theorem xk_tryCop {post : SX → Prop} {o e p s : Nat} {c c1 : Nat → Nat} (h : bk_R o e c co) (hs : s < 4) (hop : o ≤ p) (hpe : p < e) (he : e ≤ 64) (hc1 : bk_Cp (fun j => pb (64 * s + j)) e p (fun f => f < p) c c1)
    (k : ∀ co, bk_R o e c1 co → post (px, st, lf, cd, bg, gv, ob, ol, pb, pn, xp, fh, fl, fa, mk, cb, mi, mb, ml, pa, kb, kl, kc, th, pl, md, cr, hc, hg, hi, ib, il, it, qi, qc, gc, lc, lr, co)) : wpX_tryCopies post (px, st, lf, cd, bg, gv, ob, ol, pb, pn, xp, fh, fl, fa, mk, cb, mi, mb, ml, pa, kb, kl, kc, th, pl, md, cr, hc, hg, hi, ib, il, it, qi, qc, gc, lc, lr, co) (nI s) (nI p) (nI e) := by
  unfold wpX_tryCopies
  have e1 : nI s * 64 = nI (64 * s) := by rw [bn_mul, Nat.mul_comm]
  refine nm_r e1 ⟨p + 1, xk_cop9 (c0 := c) hs hop hpe he (fun co c' a b => ?_) (p + 1) 0 co c (by omega) h (bk_Cp_0 (fun f => by show ¬ f < 0; omega)) (by omega)⟩
  rw [bk_Cp_uniq b hc1 (fun _ => Iff.rfl)] at a
  exact k co a
theorem yk_cop129 {post : Int32 → SY → Prop} {J68 J116 : Int32 → Int32 → Int32 → Int32 → Int32 → (Nat → Int32) → (Nat → Int32) → (Nat → Int32) → (Nat → Int32) → (Nat → Int32) → (Nat → Int32) → (Nat → Int32) → (Nat → Int32) → (Nat → Int32) → (Nat → Int32) → (Nat → Int32) → (Nat → Int32) → (Nat → Int32) → (Nat → Int32) → (Nat → Int32) → (Nat → Int32) → (Nat → Int32) → (Nat → Int32) → (Nat → Int32) → (Nat → Int32) → (Nat → Int32) → (Nat → Int32) → (Nat → Int32) → (Nat → Int32) → (Nat → Int32) → (Nat → Int32) → (Nat → Int32) → (Nat → Int32) → (Nat → Int32) → (Nat → Int32) → (Nat → Int32) → (Nat → Int32) → (Nat → Int32) → (Nat → Int32) → (Nat → Int32) → (Nat → Int32) → (Nat → Int32) → (Nat → Int32) → (Nat → Int32) → (Nat → Int32) → (Nat → Int32) → (Nat → Int32) → Prop} {o n a d s : Nat} {c0 : Nat → Nat} (hs : s < 4) (hn : o + n ≤ 64) (han : a < n) (hd1 : 1 ≤ d) (hd : d ≤ o + a)
    (k : ∀ (be : Nat → Int32) (c : Nat → Nat), bk_R o (o + n) c (fun q => be (q - o)) → bk_Cp (fun j => pb (64 * s + j)) (o + n) (o + a) (fun f => f < o + a ∧ o + a - f < d + 1) c0 c → J116 (nI (d + 1)) fr en ma wr st lf cd ta bg kc ob ol pb pn yp ki le go mk cb mb ml la ps pd pt kw kh kf kz ky th pl md cr gc lc lr wh od tg tr so bd wo be) :
    ∀ (f m : Nat) (be : Nat → Int32) (c : Nat → Nat), m ≤ 33 → a + m ≤ n → bk_R o (o + n) c (fun q => be (q - o)) → bk_Cq (fun j => pb (64 * s + j)) (o + n) (o + a) (fun f => f < o + a ∧ o + a - f < d) (o + a - d) (o + a + m) c0 c → (∀ i, i < m → pb (64 * s + (o + a - d + i)) = pb (64 * s + (o + a + i))) → 33 - m < f →
      wY_shortest_129 post J68 J116 (nI n) (nI (64 * s)) (nI o) (nI a) (nI d) f (nI m) fr en ma wr st lf cd ta bg kc ob ol pb pn yp ki le go mk cb mb ml la ps pd pt kw kh kf kz ky th pl md cr gc lc lr wh od tg tr so bd wo be
  | 0, m, be, c, _, _, _, _, _, h => by omega
  | f + 1, m, be, c, h1, h2, hR, hC, hm, h3 => by
    have cF : (∀ q, bk_M (fun j => pb (64 * s + j)) (o + n) (o + a) (o + a - d) q → q ≤ o + a + m) → J116 (nI (d + 1)) fr en ma wr st lf cd ta bg kc ob ol pb pn yp ki le go mk cb mb ml la ps pd pt kw kh kf kz ky th pl md cr gc lc lr wh od tg tr so bd wo be := fun hz => k be c hR (bk_Cq_out hC hz (fun f' => by show (f' < o + a ∧ o + a - f' < d + 1) ↔ ((f' < o + a ∧ o + a - f' < d) ∨ f' = o + a - d); omega))
    by_cases g1 : m = 33
    · exact br_t (nI_le (a := 33) (by omega) (by omega)) (nm_r (nI_1 d) (cF (fun q M => by have := M.2.1; omega)))
    refine br_f (nI_ge (b := 33) (by omega) (by omega)) ?_
    have e2 : nI a + nI m = nI (a + m) := nI_add _ _
    rw [e2]
    by_cases g2 : n ≤ a + m
    · exact br_t (nI_le g2 (by omega)) (nm_r (nI_1 d) (cF (fun q M => by have := M.2.2.1; omega)))
    refine br_f (nI_ge (by omega) (by omega)) ?_
    have e3 : nI (64 * s) + nI o + nI a + nI m = nI (64 * s + (o + a + m)) := by
      rw [nI_add, nI_add, nI_add]
      exact congrArg nI (by omega)
    have e4 : nI (64 * s + (o + a + m)) - nI d = nI (64 * s + (o + a - d + m)) := (pk_sub (by omega)).trans (congrArg nI (by omega))
    have c3 : (nI (64 * s + (o + a - d + m))).toNatClampNeg = 64 * s + (o + a - d + m) := nI_clamp (by omega)
    have c4 : (nI (64 * s + (o + a + m))).toNatClampNeg = 64 * s + (o + a + m) := nI_clamp (by omega)
    rw [e3, e4, c3, c4]
    refine ⟨vp_in_nI (by omega) (by omega), vp_in_nI (by omega) (by omega), ?_⟩
    by_cases g3 : pb (64 * s + (o + a + m)) = pb (64 * s + (o + a - d + m))
    · have hm' : ∀ i, i < m + 1 → pb (64 * s + (o + a - d + i)) = pb (64 * s + (o + a + i)) := by
        intro i h5
        by_cases e5 : i = m
        · rw [e5]; exact g3.symm
        · exact hm i (by omega)
      refine br_t g3 (nm_r (nI_1 m) ?_)
      by_cases g4 : m = 0
      · exact br_t (nI_le (b := 1) (by omega) (by omega)) (yk_cop129 hs hn han hd1 hd k f (m + 1) be c (by omega) (by omega) hR (bk_Cq_lift hC (by omega) (by omega)) hm' (by omega))
      · refine br_f (nI_ge (a := 1) (by omega) (by omega)) ⟨pk_in a 65 (by omega), ?_⟩
        have ca : (nI a).toNatClampNeg = a := nI_clamp (by omega)
        obtain ⟨x, y⟩ := hR (o + a) (by omega) (by omega)
        have ec : c (o + a) = c0 (o + a) := (hC (o + a)).2 (by rintro (⟨f', _, M⟩ | ⟨M, _⟩) <;> (have := M.1; omega))
        have ej : o + a - o = a := by omega
        dsimp only at x
        rw [ec] at x y
        rw [ej] at x
        have ev : be a + 2 = nI (c0 (o + a) + 2) := by rw [x]; exact nI_add _ 2
        have e6 : nI a + nI (m + 1) = nI (a + (m + 1)) := nI_add _ _
        rw [ca, ev, e6]
        refine yk_better (c := c) (o := o) (e := o + n) hR (by omega) hn (by omega) (fun be h' => yk_cop129 hs hn han hd1 hd k f (m + 1) be _ (by omega) (by omega) h' (bk_Cq_step (z := o + a + m) hC ?_ ?_ ?_) hm' (by omega))
        · exact ⟨by omega, by omega, by omega, fun i h5 => hm' i (by omega)⟩
        · exact if_pos (by omega)
        · exact fun q n => if_neg (by omega)
    · refine br_f g3 (nm_r (nI_1 d) (cF (fun q M => ?_)))
      by_cases g5 : q ≤ o + a + m
      · exact g5
      · exact absurd (M.2.2.2 m (by omega)).symm g3
theorem yk_cop116 {post : Int32 → SY → Prop} {J68 : Int32 → Int32 → Int32 → Int32 → Int32 → (Nat → Int32) → (Nat → Int32) → (Nat → Int32) → (Nat → Int32) → (Nat → Int32) → (Nat → Int32) → (Nat → Int32) → (Nat → Int32) → (Nat → Int32) → (Nat → Int32) → (Nat → Int32) → (Nat → Int32) → (Nat → Int32) → (Nat → Int32) → (Nat → Int32) → (Nat → Int32) → (Nat → Int32) → (Nat → Int32) → (Nat → Int32) → (Nat → Int32) → (Nat → Int32) → (Nat → Int32) → (Nat → Int32) → (Nat → Int32) → (Nat → Int32) → (Nat → Int32) → (Nat → Int32) → (Nat → Int32) → (Nat → Int32) → (Nat → Int32) → (Nat → Int32) → (Nat → Int32) → (Nat → Int32) → (Nat → Int32) → (Nat → Int32) → (Nat → Int32) → (Nat → Int32) → (Nat → Int32) → (Nat → Int32) → (Nat → Int32) → (Nat → Int32) → (Nat → Int32) → Prop} {o n a s : Nat} {c0 : Nat → Nat} (hs : s < 4) (hn : o + n ≤ 64) (han : a < n)
    (k : ∀ (be : Nat → Int32) (c : Nat → Nat), bk_R o (o + n) c (fun q => be (q - o)) → bk_Cp (fun j => pb (64 * s + j)) (o + n) (o + a) (fun f => f < o + a) c0 c → J68 (nI (a + 1)) fr en ma wr st lf cd ta bg kc ob ol pb pn yp ki le go mk cb mb ml la ps pd pt kw kh kf kz ky th pl md cr gc lc lr wh od tg tr so bd wo be) :
    ∀ (f d : Nat) (be : Nat → Int32) (c : Nat → Nat), 1 ≤ d → d ≤ o + a + 1 → bk_R o (o + n) c (fun q => be (q - o)) → bk_Cp (fun j => pb (64 * s + j)) (o + n) (o + a) (fun f => f < o + a ∧ o + a - f < d) c0 c → o + a + 1 - d < f →
      wY_shortest_116 post J68 (nI n) (nI (64 * s)) (nI o) (nI a) f (nI d) fr en ma wr st lf cd ta bg kc ob ol pb pn yp ki le go mk cb mb ml la ps pd pt kw kh kf kz ky th pl md cr gc lc lr wh od tg tr so bd wo be
  | 0, d, be, c, _, _, _, _, h => by omega
  | f + 1, d, be, c, h1, h2, hR, hC, h3 => by
    have e2 : nI o + nI a = nI (o + a) := nI_add _ _
    by_cases l : d = o + a + 1
    · refine br_t ?_ (nm_r (nI_1 a) (k be c hR (bk_Cp_congr hC (fun f' => by show (f' < o + a ∧ o + a - f' < d) ↔ f' < o + a; omega))))
      rw [e2]
      exact nI_lt (by omega) (by omega)
    · refine br_f ?_ ⟨35, yk_cop129 (J68 := J68) (m := 0) hs hn han h1 (by omega) (fun be c x y => yk_cop116 hs hn han k f (d + 1) be c (by omega) (by omega) x y (by omega)) 35 be c (by omega) (by omega) hR (bk_Cq_in hC (by omega)) (fun i h => absurd h (by omega)) (by omega)⟩
      rw [e2]
      exact nI_nlt (by omega) (by omega)
theorem yk_lits77 {post : Int32 → SY → Prop} {J68 : Int32 → Int32 → Int32 → Int32 → Int32 → (Nat → Int32) → (Nat → Int32) → (Nat → Int32) → (Nat → Int32) → (Nat → Int32) → (Nat → Int32) → (Nat → Int32) → (Nat → Int32) → (Nat → Int32) → (Nat → Int32) → (Nat → Int32) → (Nat → Int32) → (Nat → Int32) → (Nat → Int32) → (Nat → Int32) → (Nat → Int32) → (Nat → Int32) → (Nat → Int32) → (Nat → Int32) → (Nat → Int32) → (Nat → Int32) → (Nat → Int32) → (Nat → Int32) → (Nat → Int32) → (Nat → Int32) → (Nat → Int32) → (Nat → Int32) → (Nat → Int32) → (Nat → Int32) → (Nat → Int32) → (Nat → Int32) → (Nat → Int32) → (Nat → Int32) → (Nat → Int32) → (Nat → Int32) → (Nat → Int32) → (Nat → Int32) → (Nat → Int32) → (Nat → Int32) → (Nat → Int32) → (Nat → Int32) → (Nat → Int32) → Prop} {o n a s : Nat} {c : Nat → Nat} (hn : o + n ≤ 64) (han : a < n)
    (k : ∀ be, bk_R o (o + n) (bk_lit c (o + a) (n - a)) (fun q => be (q - o)) → ∃ m : Nat, wY_shortest_116 post J68 (nI n) (nI (64 * s)) (nI o) (nI a) m 1 fr en ma wr st lf cd ta bg kc ob ol pb pn yp ki le go mk cb mb ml la ps pd pt kw kh kf kz ky th pl md cr gc lc lr wh od tg tr so bd wo be) :
    ∀ (f i : Nat) (be : Nat → Int32), bk_R o (o + n) (bk_lit c (o + a) i) (fun q => be (q - o)) → i ≤ n - a → n - a - i < f → wY_shortest_77 post J68 (nI n) (nI (64 * s)) (nI o) (nI a) f (nI (i + 1)) fr en ma wr st lf cd ta bg kc ob ol pb pn yp ki le go mk cb mb ml la ps pd pt kw kh kf kz ky th pl md cr gc lc lr wh od tg tr so bd wo be
  | 0, i, be, _, _, h => by omega
  | f + 1, i, be, h, h1, h2 => by
    have e2 : nI n - nI a = nI (n - a) := pk_sub (by omega)
    have ca : (nI a).toNatClampNeg = a := nI_clamp (by omega)
    obtain ⟨x, y⟩ := h (o + a) (by omega) (by omega)
    have ej : o + a - o = a := by omega
    dsimp only at x
    rw [bk_lit_p] at x y
    rw [ej] at x
    by_cases l : i = n - a
    · rw [l] at h
      refine br_t ?_ (k be h)
      rw [e2]
      exact nI_lt (by omega) (by omega)
    · refine br_f ?_ ⟨pk_in a 65 (by omega), ?_⟩
      · rw [e2]
        exact nI_nlt (by omega) (by omega)
      have ev : be a + 1 + nI (i + 1) = nI (c (o + a) + 1 + (i + 1)) := by
        rw [x, nI_1, nI_add]
      have e6 : nI a + nI (i + 1) = nI (a + (i + 1)) := nI_add _ _
      rw [ca, ev, e6]
      refine yk_better (c := bk_lit c (o + a) i) (o := o) (e := o + n) h (by omega) hn (by omega) (fun be h' => ?_)
      have e7 : o + (a + (i + 1)) = o + a + i + 1 := by omega
      rw [e7, bk_lit_s] at h'
      exact nm_r (nI_1 _) (yk_lits77 hn han k f (i + 1) be h' (by omega) (by omega))
theorem lk_short {s o n : Nat} (hs : s < 4) (hn : o + n ≤ 64) : ∀ (N a : Nat) (cX cY c : Nat → Nat), a + N = n → (∀ q, o ≤ q → q ≤ o + n → bk_lit cX (o + a) N q = c q ∧ bk_lit cY (o + a) N q = c q) → ∃ cF : Nat → Nat, (c o = 0 → cF o = 0) ∧
    (∀ (post : Int32 → SX → Prop) (co : Nat → Int32), bk_R o (o + n) cX co → (∀ co, bk_R o (o + n) cF co → post (nI (cF (o + n))) (px, st, lf, cd, bg, gv, ob, ol, pb, pn, xp, fh, fl, fa, mk, cb, mi, mb, ml, pa, kb, kl, kc, th, pl, md, cr, hc, hg, hi, ib, il, it, qi, qc, gc, lc, lr, co)) → ∀ f, N < f → wX_shortest_77 post (nI s) (nI (o + n)) f (nI (o + a)) px st lf cd bg gv ob ol pb pn xp fh fl fa mk cb mi mb ml pa kb kl kc th pl md cr hc hg hi ib il it qi qc gc lc lr co) ∧
    (∀ (post : Int32 → SY → Prop) (be : Nat → Int32), bk_R o (o + n) cY (fun q => be (q - o)) → (∀ be, bk_R o (o + n) cF (fun q => be (q - o)) → post (nI (cF (o + n))) (fr, en, ma, wr, st, lf, cd, ta, bg, kc, ob, ol, pb, pn, yp, ki, le, go, mk, cb, mb, ml, la, ps, pd, pt, kw, kh, kf, kz, ky, th, pl, md, cr, gc, lc, lr, wh, od, tg, tr, so, bd, wo, be)) → ∀ f, N < f → wY_shortest_68 post (nI n) (nI (64 * s)) (nI o) f (nI a) fr en ma wr st lf cd ta bg kc ob ol pb pn yp ki le go mk cb mb ml la ps pd pt kw kh kf kz ky th pl md cr gc lc lr wh od tg tr so bd wo be) := by
  intro N
  induction N with
  | zero =>
    intro a cX cY c ha hc
    rw [Nat.add_zero] at ha
    subst ha
    rw [bk_lit_0, bk_lit_0] at hc
    have ce : (nI (o + a)).toNatClampNeg = o + a := nI_clamp (by omega)
    have ca : (nI a).toNatClampNeg = a := nI_clamp (by omega)
    refine ⟨c, id, ?_, ?_⟩
    · intro post co hR k f h
      obtain ⟨f, rfl⟩ : ∃ f', f = f' + 1 := ⟨f - 1, by omega⟩
      have h1 := bk_R_eq hR (fun q x y => (hc q x y).1)
      refine br_t (nI_le (Nat.le_refl _) (by omega)) ⟨pk_in (o + a) 65 (by omega), ?_⟩
      rw [ce, (h1 (o + a) (by omega) (by omega)).1]
      exact k co h1
    · intro post be hR k f h
      obtain ⟨f, rfl⟩ : ∃ f', f = f' + 1 := ⟨f - 1, by omega⟩
      have h1 := bk_R_eq hR (fun q x y => (hc q x y).2)
      have h2 := (h1 (o + a) (by omega) (by omega)).1
      have ej : o + a - o = a := by omega
      dsimp only at h2
      rw [ej] at h2
      refine br_t (nI_le (Nat.le_refl _) (by omega)) ⟨pk_in a 65 (by omega), ?_⟩
      rw [ca, h2]
      exact k be h1
  | succ N ih =>
    intro a cX cY c ha hc
    obtain ⟨c1, hc1⟩ := bk_Cp_ex (fun j => pb (64 * s + j)) (o + n) (o + a) (fun f => f < o + a) c
    obtain ⟨cF, h0, hX, hY⟩ := ih (a + 1) c1 c1 (bk_lit c1 (o + (a + 1)) N) (by omega) (fun q _ _ => ⟨rfl, rfl⟩)
    have eN : o + n - (o + a) = N + 1 := by omega
    have eM : n - a = N + 1 := by omega
    refine ⟨cF, fun z => h0 ?_, ?_, ?_⟩
    · have z1 : bk_lit c1 (o + (a + 1)) N o = c1 o := if_neg (by omega)
      have z2 : c1 o = c o := (hc1 o).2 (by rintro ⟨f, _, M⟩; have := M.1; omega)
      rw [z1, z2, z]
    · intro post co hR k f h
      obtain ⟨f, rfl⟩ : ∃ f', f = f' + 1 := ⟨f - 1, by omega⟩
      refine br_f (nI_ge (by omega) (by omega)) (xk_tryLit (c := cX) hR (by omega) (by omega) hn (fun co h1 => ?_))
      rw [eN] at h1
      exact xk_tryCop (bk_R_eq h1 (fun q x y => (hc q x y).1)) hs (by omega) (by omega) hn hc1 (fun co h2 => nm_r (nI_1 _) (hX post co h2 k f (by omega)))
    · intro post be hR k f h
      obtain ⟨f, rfl⟩ : ∃ f', f = f' + 1 := ⟨f - 1, by omega⟩
      refine br_f (nI_ge (by omega) (by omega)) ⟨N + 2, yk_lits77 (i := 0) (c := cY) hn (by omega) (fun be h1 => ?_) (N + 2) be (by rw [bk_lit_0]; exact hR) (by omega) (by omega)⟩
      rw [eM] at h1
      refine ⟨o + a + 1, yk_cop116 (d := 1) (c0 := c) hs hn (by omega) (fun be c' x y => ?_) (o + a + 1) be c (by omega) (by omega) (bk_R_eq h1 (fun q x y => (hc q x y).2)) (bk_Cp_0 (fun f => by show ¬ (f < o + a ∧ o + a - f < 1); omega)) (by omega)⟩
      rw [bk_Cp_uniq y hc1 (fun _ => Iff.rfl)] at x
      exact hY post be x k f (by omega)
theorem xk_s51 {post : Int32 → SX → Prop} {s o n : Nat} (hn : o + n ≤ 64) (k : ∀ co, bk_R o (o + n) (bk_c0 o 130) co → ∃ m : Nat, wX_shortest_77 post (nI s) (nI (o + n)) m (nI o) px st lf cd bg gv ob ol pb pn xp fh fl fa mk cb mi mb ml pa kb kl kc th pl md cr hc hg hi ib il it qi qc gc lc lr co) :
    ∀ (f i : Nat) (co : Nat → Int32), bk_R o (o + i) (bk_c0 o 130) co → i ≤ n → n - i < f → wX_shortest_51 post (nI s) (nI (o + n)) (nI o) px f (nI (o + i + 1)) st lf cd bg gv ob ol pb pn xp fh fl fa mk cb mi mb ml pa kb kl kc th pl md cr hc hg hi ib il it qi qc gc lc lr co
  | 0, i, co, _, _, h => by omega
  | f + 1, i, co, h, h1, h2 => by
    by_cases l : i = n
    · rw [l] at h
      exact br_t (nI_lt (by omega) (by omega)) (k co h)
    · have c2 : (nI (o + i + 1)).toNatClampNeg = o + i + 1 := nI_clamp (by omega)
      refine br_f (nI_nlt (by omega) (by omega)) ⟨pk_in (o + i + 1) 65 (by omega), ?_⟩
      rw [c2]
      refine nm_e (nm_r (nI_1 _) (xk_s51 hn k f (i + 1) _ (fun q x y => ?_) (by omega) (by omega)))
      by_cases e1 : q = o + i + 1
      · rw [e1, pk_us, bk_c0_b (by omega)]
        exact ⟨rfl, by omega⟩
      · rw [pk_un e1]
        exact h q x (by omega)
theorem yk_s43 {post : Int32 → SY → Prop} {s o n : Nat} (hn : o + n ≤ 64) (k : ∀ be, bk_R o (o + n) (bk_c0 o 1000) (fun q => be (q - o)) → ∃ m : Nat, wY_shortest_68 post (nI n) (nI (64 * s)) (nI o) m 0 fr en ma wr st lf cd ta bg kc ob ol pb pn yp ki le go mk cb mb ml la ps pd pt kw kh kf kz ky th pl md cr gc lc lr wh od tg tr so bd wo be) :
    ∀ (f i : Nat) (be : Nat → Int32), bk_R o (o + i) (bk_c0 o 1000) (fun q => be (q - o)) → i ≤ n → n - i < f → wY_shortest_43 post (nI n) (nI (64 * s)) (nI o) fr en ma wr f (nI (i + 1)) st lf cd ta bg kc ob ol pb pn yp ki le go mk cb mb ml la ps pd pt kw kh kf kz ky th pl md cr gc lc lr wh od tg tr so bd wo be
  | 0, i, be, _, _, h => by omega
  | f + 1, i, be, h, h1, h2 => by
    by_cases l : i = n
    · rw [l] at h
      exact br_t (nI_lt (by omega) (by omega)) (k be h)
    · have c2 : (nI (i + 1)).toNatClampNeg = i + 1 := nI_clamp (by omega)
      refine br_f (nI_nlt (by omega) (by omega)) ⟨pk_in (i + 1) 65 (by omega), ?_⟩
      rw [c2]
      refine nm_e (nm_r (nI_1 _) (yk_s43 hn k f (i + 1) _ (fun q x y => ?_) (by omega) (by omega)))
      dsimp only
      by_cases e1 : q = o + (i + 1)
      · have e2 : q - o = i + 1 := by omega
        rw [e2, pk_us, bk_c0_b (by omega)]
        exact ⟨rfl, by omega⟩
      · have e2 : q - o ≠ i + 1 := by omega
        rw [pk_un e2]
        exact h q x (by omega)
end SHORT
