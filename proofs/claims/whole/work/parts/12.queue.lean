/-! the desk as one value; queues give -/
abbrev bk_DT : Type := (Nat → List bk_E) × (Nat → Nat) × (Nat → Int32) × (Nat → Int32) × (Nat → Int32) × (Nat → Int32) × (Nat → Int32) × (Nat → Int32) × (Nat → Int32) × (Nat → Int32) × (Nat → Int32) × (Nat → Int32) × (Nat → Int32) × (Nat → Int32) × (Nat → Int32) × (Nat → Int32) × (Nat → Int32) × (Nat → Int32) × (Nat → Int32) × (Nat → Int32) × (Nat → Int32) × (Nat → Int32) × (Nat → Int32) × (Nat → Int32) × Int32 × Int32
abbrev zz_A (d : bk_DT) : (Nat → List bk_E) := d.1
abbrev zz_g (d : bk_DT) : (Nat → Nat) := d.2.1
abbrev zz_ob (d : bk_DT) : (Nat → Int32) := d.2.2.1
abbrev zz_ol (d : bk_DT) : (Nat → Int32) := d.2.2.2.1
abbrev zz_gc (d : bk_DT) : (Nat → Int32) := d.2.2.2.2.1
abbrev zz_lc (d : bk_DT) : (Nat → Int32) := d.2.2.2.2.2.1
abbrev zz_lr (d : bk_DT) : (Nat → Int32) := d.2.2.2.2.2.2.1
abbrev zz_gv (d : bk_DT) : (Nat → Int32) := d.2.2.2.2.2.2.2.1
abbrev zz_th (d : bk_DT) : (Nat → Int32) := d.2.2.2.2.2.2.2.2.1
abbrev zz_hc (d : bk_DT) : (Nat → Int32) := d.2.2.2.2.2.2.2.2.2.1
abbrev zz_hg (d : bk_DT) : (Nat → Int32) := d.2.2.2.2.2.2.2.2.2.2.1
abbrev zz_hi (d : bk_DT) : (Nat → Int32) := d.2.2.2.2.2.2.2.2.2.2.2.1
abbrev zz_ib (d : bk_DT) : (Nat → Int32) := d.2.2.2.2.2.2.2.2.2.2.2.2.1
abbrev zz_il (d : bk_DT) : (Nat → Int32) := d.2.2.2.2.2.2.2.2.2.2.2.2.2.1
abbrev zz_it (d : bk_DT) : (Nat → Int32) := d.2.2.2.2.2.2.2.2.2.2.2.2.2.2.1
abbrev zz_qi (d : bk_DT) : (Nat → Int32) := d.2.2.2.2.2.2.2.2.2.2.2.2.2.2.2.1
abbrev zz_qc (d : bk_DT) : (Nat → Int32) := d.2.2.2.2.2.2.2.2.2.2.2.2.2.2.2.2.1
abbrev zz_ta (d : bk_DT) : (Nat → Int32) := d.2.2.2.2.2.2.2.2.2.2.2.2.2.2.2.2.2.1
abbrev zz_wh (d : bk_DT) : (Nat → Int32) := d.2.2.2.2.2.2.2.2.2.2.2.2.2.2.2.2.2.2.1
abbrev zz_od (d : bk_DT) : (Nat → Int32) := d.2.2.2.2.2.2.2.2.2.2.2.2.2.2.2.2.2.2.2.1
abbrev zz_tg (d : bk_DT) : (Nat → Int32) := d.2.2.2.2.2.2.2.2.2.2.2.2.2.2.2.2.2.2.2.2.1
abbrev zz_tr (d : bk_DT) : (Nat → Int32) := d.2.2.2.2.2.2.2.2.2.2.2.2.2.2.2.2.2.2.2.2.2.1
abbrev zz_so (d : bk_DT) : (Nat → Int32) := d.2.2.2.2.2.2.2.2.2.2.2.2.2.2.2.2.2.2.2.2.2.2.1
abbrev zz_bd (d : bk_DT) : (Nat → Int32) := d.2.2.2.2.2.2.2.2.2.2.2.2.2.2.2.2.2.2.2.2.2.2.2.1
abbrev zz_fr (d : bk_DT) : Int32 := d.2.2.2.2.2.2.2.2.2.2.2.2.2.2.2.2.2.2.2.2.2.2.2.2.1
abbrev zz_en (d : bk_DT) : Int32 := d.2.2.2.2.2.2.2.2.2.2.2.2.2.2.2.2.2.2.2.2.2.2.2.2.2
theorem bk_shl_0 (f : Nat → Int32) (b : Nat) : bk_shl f b 0 = f := by
  funext j; unfold bk_shl; rw [if_neg (by omega)]
theorem bk_shl_s (f : Nat → Int32) (b i : Nat) : upd (bk_shl f b i) (b + i) (f (b + i + 1)) = bk_shl f b (i + 1) := by
  funext j
  unfold upd bk_shl
  by_cases e : j = b + i
  · rw [if_pos e, if_pos (by omega), e]
  · rw [if_neg e]
    by_cases h : b ≤ j ∧ j < b + i
    · rw [if_pos h, if_pos (by omega)]
    · rw [if_neg h, if_neg (by omega)]
theorem bk_shl_o (f : Nat → Int32) (b i : Nat) : bk_shl f b i (b + i + 1) = f (b + i + 1) := by
  unfold bk_shl; rw [if_neg (by omega)]
section QUEUE
variable {B : Nat} {A : Nat → List bk_E} {g : Nat → Nat} {st lf cd bg gv ob ol pb pn xp fh fl fa mk cb mi mb ml pa kb kl kc th pl md cr hc hg hi ib il it qi qc gc lc lr co ta yp ki le go la ps pd pt kw kh kf kz ky wh od tg tr so bd wo be : Nat → Int32} {px fr en ma wr : Int32}
/-- the ring behind the latest one -/
theorem bk_ring (h : ∀ t, t < 6 → lr t = -1 ∨ ∃ r, r < 16 ∧ lr t = nI r) {t : Nat} (ht : t < 6) : ∃ b, b ≤ 16 ∧ ∀ j, lr t + nI (j + 1) = nI (b + j) := by
  rcases h t ht with e | ⟨r, hr, e⟩
  · refine ⟨0, by omega, fun j => ?_⟩
    rw [e, Int32.add_comm, pk_m1, Nat.zero_add]
  · refine ⟨r + 1, by omega, fun j => ?_⟩
    rw [e, nI_add]
    exact congrArg nI (by omega)
theorem xk_nt {post : Int32 → Prop} {t n b : Nat} (h : bk_C B A g st ol th pl md cr lr gv ib il it qi qc ta wh od tg tr so bd fr en) (rh : bk_RH A hi hg hc) (ht : t < 3) (hn : n ≤ 16) (hb : b ≤ 16) (hlr : ∀ j, lr t + nI (j + 1) = nI (b + j))
    (h0 : (∀ i, i < 16 → ¬ bk_Can A st ol th pl md cr ((b + i) % 16) t n) → post (-1))
    (h1 : ∀ i, i < 16 → bk_Can A st ol th pl md cr ((b + i) % 16) t n → (∀ j, j < i → ¬ bk_Can A st ol th pl md cr ((b + j) % 16) t n) → post (nI ((b + i) % 16))) :
    ∀ f j, j ≤ 16 → 16 - j < f → (∀ i, i < j → ¬ bk_Can A st ol th pl md cr ((b + i) % 16) t n) → wX_nextTaker_2 post (nI t) (nI n) px st lf cd bg gv ob ol pb pn xp fh fl fa mk cb mi mb ml pa kb kl kc th pl md cr hc hg hi ib il it qi qc gc lc lr co f (nI (j + 1))
  | 0, j, _, _, _ => by omega
  | f + 1, j, hj, hf, no => by
    have ct : (nI t).toNatClampNeg = t := nI_clamp (by omega)
    refine pk_lt 16 (j + 1) (fun g => ?_) (fun g => ⟨pk_in t 6 (by omega), by decide, ?_⟩)
    · have : j = 16 := by omega
      subst this
      exact h0 no
    · rw [ct, hlr]
      refine nm_r (pk_rem (a := b + j) (d := 16) (by omega) (by decide) (by decide)) ?_
      refine xk_canTake h rh (by omega) (by omega) (by omega) (fun c => ?_) (fun c => ?_)
      · exact br_f (by decide) (h1 j (by omega) c no)
      · refine br_t rfl (nm_r (nI_1 (j + 1)) ?_)
        refine xk_nt h rh ht hn hb hlr h0 h1 f (j + 1) (by omega) (by omega) (fun i hi => ?_)
        rcases Nat.lt_succ_iff_lt_or_eq.mp hi with hi | rfl
        · exact no i hi
        · exact c
theorem yk_nt {post : SY → Prop} {J2 J13 : Int32 → Int32 → Int32 → Int32 → Int32 → (Nat → Int32) → (Nat → Int32) → (Nat → Int32) → (Nat → Int32) → (Nat → Int32) → (Nat → Int32) → (Nat → Int32) → (Nat → Int32) → (Nat → Int32) → (Nat → Int32) → (Nat → Int32) → (Nat → Int32) → (Nat → Int32) → (Nat → Int32) → (Nat → Int32) → (Nat → Int32) → (Nat → Int32) → (Nat → Int32) → (Nat → Int32) → (Nat → Int32) → (Nat → Int32) → (Nat → Int32) → (Nat → Int32) → (Nat → Int32) → (Nat → Int32) → (Nat → Int32) → (Nat → Int32) → (Nat → Int32) → (Nat → Int32) → (Nat → Int32) → (Nat → Int32) → (Nat → Int32) → (Nat → Int32) → (Nat → Int32) → (Nat → Int32) → (Nat → Int32) → (Nat → Int32) → (Nat → Int32) → (Nat → Int32) → (Nat → Int32) → (Nat → Int32) → (Nat → Int32) → Prop} {t n b y : Nat} (h : bk_C B A g st ol th pl md cr lr gv ib il it qi qc ta wh od tg tr so bd fr en) (ht : t < 3) (hn : n ≤ 16) (hy : y < 112) (hso : so y = nI n) (hb : b ≤ 16) (hlr : ∀ j, lr t + nI (j + 1) = nI (b + j))
    (h0 : (∀ i, i < 16 → ¬ bk_Can A st ol th pl md cr ((b + i) % 16) t n) → wY_giveAll_72 post J2 J13 (nI t) (nI y) (-1) fr en ma wr st lf cd ta bg kc ob ol pb pn yp ki le go mk cb mb ml la ps pd pt kw kh kf kz ky th pl md cr gc lc lr wh od tg tr so bd wo be)
    (h1 : ∀ i, i < 16 → bk_Can A st ol th pl md cr ((b + i) % 16) t n → (∀ j, j < i → ¬ bk_Can A st ol th pl md cr ((b + j) % 16) t n) → wY_giveAll_72 post J2 J13 (nI t) (nI y) (nI ((b + i) % 16)) fr en ma wr st lf cd ta bg kc ob ol pb pn yp ki le go mk cb mb ml la ps pd pt kw kh kf kz ky th pl md cr gc lc lr wh od tg tr so bd wo be) :
    ∀ f j, j ≤ 16 → 17 - j < f → (∀ i, i < j → ¬ bk_Can A st ol th pl md cr ((b + i) % 16) t n) → wY_giveAll_22 post J2 J13 (nI t) (nI y) fr en ma wr st lf cd ta bg kc ob ol pb pn yp ki le go mk cb mb ml la ps pd pt kw kh kf kz ky th pl md cr gc lc lr wh od tg tr so bd wo be f (-1) (nI (j + 1))
  | 0, j, _, _, _ => by omega
  | f + 1, j, hj, hf, no => by
    have ct : (nI t).toNatClampNeg = t := nI_clamp (by omega)
    have cy : (nI y).toNatClampNeg = y := nI_clamp (by omega)
    refine pk_le 17 (j + 1) (fun g => ?_) (fun g => br_f (by decide) ⟨pk_in t 6 (by omega), by decide, ?_⟩)
    · have : j = 16 := by omega
      subst this
      exact h0 no
    · rw [ct, hlr, cy, hso]
      refine nm_r (pk_rem (a := b + j) (d := 16) (by omega) (by decide) (by decide)) ⟨pk_in y 112 hy, ?_⟩
      refine yk_can h (by omega) (by omega) (by omega) (fun c => ?_) (fun c => ?_)
      · refine br_f (by decide) (nm_r (nI_1 (j + 1)) ?_)
        obtain ⟨f', rfl⟩ : ∃ f', f = f' + 1 := ⟨f - 1, by omega⟩
        have w := h1 j (by omega) c no
        exact pk_le 17 (j + 1 + 1) (fun _ => w) (fun _ => br_t (nI_pos' (by omega)) w)
      · refine br_t rfl (nm_r (nI_1 (j + 1)) ?_)
        refine yk_nt h ht hn hy hso hb hlr h0 h1 f (j + 1) (by omega) (by omega) (fun i hi => ?_)
        rcases Nat.lt_succ_iff_lt_or_eq.mp hi with hi | rfl
        · exact no i hi
        · exact c
/-- the queue's row moves up, then the first one is given -/
theorem xk_q63 {post : SX → Prop} {J7 : Int32 → Int32 → (Nat → Int32) → (Nat → Int32) → (Nat → Int32) → (Nat → Int32) → (Nat → Int32) → (Nat → Int32) → (Nat → Int32) → (Nat → Int32) → (Nat → Int32) → (Nat → Int32) → (Nat → Int32) → (Nat → Int32) → (Nat → Int32) → (Nat → Int32) → (Nat → Int32) → (Nat → Int32) → (Nat → Int32) → (Nat → Int32) → (Nat → Int32) → (Nat → Int32) → (Nat → Int32) → (Nat → Int32) → (Nat → Int32) → (Nat → Int32) → (Nat → Int32) → (Nat → Int32) → (Nat → Int32) → (Nat → Int32) → (Nat → Int32) → (Nat → Int32) → (Nat → Int32) → (Nat → Int32) → (Nat → Int32) → (Nat → Int32) → (Nat → Int32) → (Nat → Int32) → (Nat → Int32) → (Nat → Int32) → Prop} {t N q : Nat} {x3 x5 : Int32} (ht : t < 3) (hN : N < 8) (hq : q < 104)
    (hend : wpX_give__itemBody (fun u => match u with | (px, st, lf, cd, bg, gv, ob, ol, pb, pn, xp, fh, fl, fa, mk, cb, mi, mb, ml, pa, kb, kl, kc, th, pl, md, cr, hc, hg, hi, ib, il, it, qi, qc, gc, lc, lr, co) => ∀ x, x = x3 + 1 → J7 x px st lf cd bg gv ob ol pb pn xp fh fl fa mk cb mi mb ml pa kb kl kc th pl md cr hc hg hi ib il it qi qc gc lc lr co) (px, st, lf, cd, bg, gv, ob, ol, pb, pn, xp, fh, fl, fa, mk, cb, mi, mb, ml, pa, kb, kl, kc, th, pl, md, cr, hc, hg, hi, ib, il, it, bk_shl qi (t * 8) N, upd qc t (nI N), gc, lc, lr, co) x5 (nI (q * 16)) (il q) (nI q)) :
    ∀ f i, i ≤ N → N - i < f → wX_giveQueue_63 post J7 (nI t) (nI (t * 8)) x3 (nI q) x5 px f (nI i) st lf cd bg gv ob ol pb pn xp fh fl fa mk cb mi mb ml pa kb kl kc th pl md cr hc hg hi ib il it (bk_shl qi (t * 8) i) (upd qc t (nI N)) gc lc lr co
  | 0, i, _, _ => by omega
  | f + 1, i, hi, hf => by
    have ct : (nI t).toNatClampNeg = t := nI_clamp (by omega)
    have cq : (nI q).toNatClampNeg = q := nI_clamp (by omega)
    have ix : nI (t * 8) + nI i = nI (t * 8 + i) := nI_add _ _
    have ci : (nI (t * 8 + i)).toNatClampNeg = t * 8 + i := nI_clamp (by omega)
    have ci' : (nI (t * 8 + i + 1)).toNatClampNeg = t * 8 + i + 1 := nI_clamp (by omega)
    have e16 : nI q * 16 = nI (q * 16) := bn_mul q 16
    refine ⟨pk_in t 3 ht, ?_⟩
    rw [ct, pk_us, ix, ci, nI_1 (t * 8 + i), ci', cq, e16]
    refine pk_le N i (fun g => ⟨pk_in q 104 hq, ?_⟩) (fun g => ⟨pk_in (t * 8 + i + 1) 24 (by omega), pk_in (t * 8 + i) 24 (by omega), ?_⟩)
    · have : i = N := by omega
      subst this
      exact hend
    · rw [bk_shl_o, bk_shl_s]
      exact nm_e (nm_r (nI_1 i) (xk_q63 ht hN hq hend f (i + 1) (by omega) (by omega)))
end QUEUE
section QUEUE2
variable {st pl md cr : Nat → Int32}
theorem lk_queue {t : Nat} (ht : t < 3) : ∀ (N : Nat) {B : Nat} {A : Nat → List bk_E} {g : Nat → Nat} {ob : Nat → Int32} {ol : Nat → Int32} {gc : Nat → Int32} {lc : Nat → Int32} {lr : Nat → Int32} {gv : Nat → Int32} {th : Nat → Int32} {hc : Nat → Int32} {hg : Nat → Int32} {hi : Nat → Int32} {ib : Nat → Int32} {il : Nat → Int32} {it : Nat → Int32} {qi : Nat → Int32} {qc : Nat → Int32} {ta : Nat → Int32} {wh : Nat → Int32} {od : Nat → Int32} {tg : Nat → Int32} {tr : Nat → Int32} {so : Nat → Int32} {bd : Nat → Int32} {fr : Int32} {en : Int32}, bk_C B A g st ol th pl md cr lr gv ib il it qi qc ta wh od tg tr so bd fr en → bk_RH A hi hg hc → (A t).length = N → B + N ≤ 100000000 →
    ∃ d : bk_DT, bk_C (B + N) (zz_A d) (zz_g d) st (zz_ol d) (zz_th d) pl md cr (zz_lr d) (zz_gv d) (zz_ib d) (zz_il d) (zz_it d) (zz_qi d) (zz_qc d) (zz_ta d) (zz_wh d) (zz_od d) (zz_tg d) (zz_tr d) (zz_so d) (zz_bd d) (zz_fr d) (zz_en d) ∧ bk_RH (zz_A d) (zz_hi d) (zz_hg d) (zz_hc d) ∧ zz_th d = th ∧
      (∀ {lf cd bg pb pn xp fh fl fa mk cb mi mb ml pa kb kl kc co : Nat → Int32} {px : Int32} (post : SX → Prop) (f k : Nat), k + N ≤ 8 → N < f → post (px, st, lf, cd, bg, zz_gv d, zz_ob d, zz_ol d, pb, pn, xp, fh, fl, fa, mk, cb, mi, mb, ml, pa, kb, kl, kc, zz_th d, pl, md, cr, zz_hc d, zz_hg d, zz_hi d, zz_ib d, zz_il d, zz_it d, zz_qi d, zz_qc d, zz_gc d, zz_lc d, zz_lr d, co) → wX_giveQueue_7 post (nI t) (nI (t * 8)) f (nI k) px st lf cd bg gv ob ol pb pn xp fh fl fa mk cb mi mb ml pa kb kl kc th pl md cr hc hg hi ib il it qi qc gc lc lr co) ∧
      (∀ {lf cd bg kc pb pn yp ki le go mk cb mb ml la ps pd pt kw kh kf kz ky wo be : Nat → Int32} {ma wr : Int32} (post : SY → Prop) (J2 : Int32 → Int32 → Int32 → Int32 → Int32 → (Nat → Int32) → (Nat → Int32) → (Nat → Int32) → (Nat → Int32) → (Nat → Int32) → (Nat → Int32) → (Nat → Int32) → (Nat → Int32) → (Nat → Int32) → (Nat → Int32) → (Nat → Int32) → (Nat → Int32) → (Nat → Int32) → (Nat → Int32) → (Nat → Int32) → (Nat → Int32) → (Nat → Int32) → (Nat → Int32) → (Nat → Int32) → (Nat → Int32) → (Nat → Int32) → (Nat → Int32) → (Nat → Int32) → (Nat → Int32) → (Nat → Int32) → (Nat → Int32) → (Nat → Int32) → (Nat → Int32) → (Nat → Int32) → (Nat → Int32) → (Nat → Int32) → (Nat → Int32) → (Nat → Int32) → (Nat → Int32) → (Nat → Int32) → (Nat → Int32) → (Nat → Int32) → (Nat → Int32) → (Nat → Int32) → (Nat → Int32) → (Nat → Int32) → (Nat → Int32) → Prop) (f : Nat) (b : Int32), N + 1 < f → ((A t = [] ∧ b = -1) ∨ ∃ p l, A t = p :: l ∧ b = nI p.2.1) → J2 (nI (t + 1)) (zz_fr d) (zz_en d) ma wr st lf cd (zz_ta d) bg kc (zz_ob d) (zz_ol d) pb pn yp ki le go mk cb mb ml la ps pd pt kw kh kf kz ky (zz_th d) pl md cr (zz_gc d) (zz_lc d) (zz_lr d) (zz_wh d) (zz_od d) (zz_tg d) (zz_tr d) (zz_so d) (zz_bd d) wo be → wY_giveAll_13 post J2 (nI t) f b fr en ma wr st lf cd ta bg kc ob ol pb pn yp ki le go mk cb mb ml la ps pd pt kw kh kf kz ky th pl md cr gc lc lr wh od tg tr so bd wo be) := by
  intro N
  induction N with
  | zero =>
    intro B A g ob ol gc lc lr gv th hc hg hi ib il it qi qc ta wh od tg tr so bd fr en h rh hN hB
    have hA : A t = [] := List.length_eq_zero_iff.mp hN
    refine ⟨(A, g, ob, ol, gc, lc, lr, gv, th, hc, hg, hi, ib, il, it, qi, qc, ta, wh, od, tg, tr, so, bd, fr, en), h, rh, rfl, ?_, ?_⟩
    · intro lf cd bg pb pn xp fh fl fa mk cb mi mb ml pa kb kl kc co px post f k hk hf hp
      obtain ⟨f, rfl⟩ : ∃ f', f = f' + 1 := ⟨f - 1, by omega⟩
      have ct : (nI t).toNatClampNeg = t := nI_clamp (by omega)
      have hq := (h.2.1 t ht).1
      rw [hA] at hq
      refine pk_le 8 k (fun _ => hp) (fun _ => ⟨pk_in t 3 ht, ?_⟩)
      rw [ct, hq]
      exact br_t (by decide) hp
    · intro lf cd bg kc pb pn yp ki le go mk cb mb ml la ps pd pt kw kh kf kz ky wo be ma wr post J2 f b hf hb hJ
      obtain ⟨f, rfl⟩ : ∃ f', f = f' + 1 := ⟨f - 1, by omega⟩
      rcases hb with ⟨_, rfl⟩ | ⟨p, l, e, _⟩
      · exact br_t bk_m1lt (nm_r (nI_1 t) hJ)
      · rw [hA] at e; cases e
  | succ N ih =>
    intro B A g ob ol gc lc lr gv th hc hg hi ib il it qi qc ta wh od tg tr so bd fr en h rh hN hB
    have ct : (nI t).toNatClampNeg = t := nI_clamp (by omega)
    have c8 : (nI (t * 8)).toNatClampNeg = t * 8 := nI_clamp (by omega)
    cases hA : A t with
    | nil => rw [hA] at hN; cases hN
    | cons p l =>
    have hl : l.length = N := by rw [hA] at hN; exact Nat.succ.inj hN
    have h8 := (dk_len h).1 t ht
    rw [hN] at h8
    have hpm : p ∈ A t := by rw [hA]; exact List.mem_cons_self
    have hq := (h.2.1 t ht).1
    have hqi := (h.2.1 t ht).2 0 p (by rw [hA]; rfl)
    rw [hN] at hq
    have c0 := h.1.1 t p (by omega) hpm
    rcases c0.2.2.1 with ⟨_, q, n, tt, o1, o2, o3, o4, o5, o6, o7, o8, o9, o10⟩ | ⟨x, _⟩
    rotate_left
    · exact absurd (Or.inl ht) x
    have cq : (nI q).toNatClampNeg = q := nI_clamp (by omega)
    have e16 : nI q * 16 = nI (q * 16) := bn_mul q 16
    rw [o2, Nat.add_zero] at hqi
    obtain ⟨b, hb, hlr⟩ := bk_ring h.2.2.2.2.1 (show t < 6 by omega)
    -- X's road to the taker
    have roadX : ∀ {lf cd bg pb pn xp fh fl fa mk cb mi mb ml pa kb kl kc co : Nat → Int32} {px : Int32} (post : SX → Prop) (f k : Nat), k + (N + 1) ≤ 8 → 
        ((∀ i, i < 16 → ¬ bk_Can A st ol th pl md cr ((b + i) % 16) t n) → post (px, st, lf, cd, bg, gv, ob, ol, pb, pn, xp, fh, fl, fa, mk, cb, mi, mb, ml, pa, kb, kl, kc, th, pl, md, cr, hc, hg, hi, ib, il, it, qi, qc, gc, lc, lr, co)) →
        (∀ i, i < 16 → bk_Can A st ol th pl md cr ((b + i) % 16) t n → (∀ j, j < i → ¬ bk_Can A st ol th pl md cr ((b + j) % 16) t n) →
          ∃ n63, wX_giveQueue_63 post (wX_giveQueue_7 post (nI t) (nI (t * 8)) f) (nI t) (nI (t * 8)) (nI k) (nI q) (nI ((b + i) % 16)) px n63 0 st lf cd bg gv ob ol pb pn xp fh fl fa mk cb mi mb ml pa kb kl kc th pl md cr hc hg hi ib il it qi (upd qc t (nI N)) gc lc lr co) →
        wX_giveQueue_7 post (nI t) (nI (t * 8)) (f + 1) (nI k) px st lf cd bg gv ob ol pb pn xp fh fl fa mk cb mi mb ml pa kb kl kc th pl md cr hc hg hi ib il it qi qc gc lc lr co := by
      intro lf cd bg pb pn xp fh fl fa mk cb mi mb ml pa kb kl kc co px post f k hk g0 g1
      refine br_f (nI_ge (b := 8) (by omega) (by omega)) ⟨pk_in t 3 ht, ?_⟩
      rw [ct, hq, c8, hqi]
      refine br_f (nI_nle (by omega) (by omega)) ⟨pk_in (t * 8) 24 (by omega), nm_e ⟨pk_in q 104 o1, ?_⟩⟩
      rw [cq, o6]
      refine ⟨17, xk_nt h rh ht o4 hb hlr (fun no => ?_) (fun i hi c no => ?_) 17 0 (by omega) (by omega) (fun i hi => absurd hi (Nat.not_lt_zero i))⟩
      · exact br_f (by decide) (g0 no)
      · refine br_t (nI_pos' (by omega)) ⟨pk_in t 3 ht, pk_in t 3 ht, nm_r (e' := upd qc t (nI N)) (by rw [nI_pred]) (g1 i hi c no)⟩
    by_cases any : ∃ i, i < 16 ∧ bk_Can A st ol th pl md cr ((b + i) % 16) t n
    rotate_left
    · refine ⟨(A, g, ob, ol, gc, lc, lr, gv, th, hc, hg, hi, ib, il, it, qi, qc, ta, wh, od, tg, tr, so, bd, fr, en), dk_mono h (by omega), rh, rfl, ?_, ?_⟩
      · intro lf cd bg pb pn xp fh fl fa mk cb mi mb ml pa kb kl kc co px post f k hk hf hp
        obtain ⟨f, rfl⟩ : ∃ f', f = f' + 1 := ⟨f - 1, by omega⟩
        exact roadX post f k hk (fun _ => hp) (fun i hi c _ => absurd ⟨i, hi, c⟩ any)
      · intro lf cd bg kc pb pn yp ki le go mk cb mb ml la ps pd pt kw kh kf kz ky wo be ma wr post J2 f b' hf hb' hJ
        obtain ⟨f, rfl⟩ : ∃ f', f = f' + 1 + 1 := ⟨f - 2, by omega⟩
        rcases hb' with ⟨e, _⟩ | ⟨p', l', e, rfl⟩
        · cases e
        · cases e
          refine br_f (nI_pos (by omega)) ⟨18, yk_nt h ht o4 c0.1 o7 hb hlr (fun no => ?_) (fun i hi c no => absurd ⟨i, hi, c⟩ any) 18 0 (by omega) (by omega) (fun i hi => absurd hi (Nat.not_lt_zero i))⟩
          exact br_t bk_m1lt (br_f (by decide) (br_t bk_m1lt (nm_r (nI_1 t) hJ)))
    · obtain ⟨i, ⟨hi16, can⟩, least⟩ := pk_least _ any
      have least' : ∀ j, j < i → ¬ bk_Can A st ol th pl md cr ((b + j) % 16) t n := fun j hj c => least j hj ⟨by omega, c⟩
      have uniq : ∀ i', i' < 16 → bk_Can A st ol th pl md cr ((b + i') % 16) t n → (∀ j, j < i' → ¬ bk_Can A st ol th pl md cr ((b + j) % 16) t n) → i' = i := by
        intro i' h1 h2 h3
        rcases Nat.lt_trichotomy i' i with z | z | z
        · exact absurd h2 (least' i' z)
        · exact z
        · exact absurd can (h3 i z)
      generalize hr : (b + i) % 16 = r at can
      have hr16 : r < 16 := by omega
      have canr := can
      obtain ⟨k1, k2, k3, ⟨a, k4, k5⟩, k6⟩ := can
      have sess := h.2.2.2.1 (r / 4) (by omega)
      have hG : g (r / 4) < 2 ^ 31 := by have := sess.2.2.1; omega
      have body : ∀ k, k < n → ib (q * 16 + k) = bd (16 * p.2.1 + k) := o10
      have wfe := bk_wf_congr (bk_hd ob (r / 4) a n r (g (r / 4))) (r / 4) (a + 5) (fun k => bd (16 * p.2.1 + k)) (fun k => ib (q * 16 + k)) n (fun j hj => (body j hj).symm)
      have g1 := h.2.2.1 r hr16
      rcases g1 with ⟨z, _⟩ | ⟨_, t', m, c, j1, j2, j3, j4, j5, j6, j7, j8, j9⟩
      · rw [k1] at z; exact absurd z (by decide)
      have hl5 := (dk_len h).2 r hr16
      -- what is common: both give, then the rest by the induction
      by_cases m0 : m = 0
      · subst m0
        have w := dk_giveQ0 (a := a + 5 + n) h rh (by omega) ht hA hr16 (by omega)
        obtain ⟨d, hd, hdr, hth, xd, yd⟩ := ih (ob := bk_wf (bk_hd ob (r / 4) a n r (g (r / 4))) (r / 4) (a + 5) (fun k => ib (q * 16 + k)) n) (gc := upd gc t (gc t + 1)) (lc := lc) w.1 w.2 (by rw [bk_set_s]; exact hl) (by omega)
        refine ⟨d, by rw [Nat.add_assoc, Nat.add_comm 1 N] at hd; exact hd, hdr, hth, ?_, ?_⟩
        · intro lf cd bg pb pn xp fh fl fa mk cb mi mb ml pa kb kl kc co px post f k hk hf hp
          obtain ⟨f, rfl⟩ : ∃ f', f = f' + 1 := ⟨f - 1, by omega⟩
          refine roadX post f k hk (fun no => absurd canr (by have := no i hi16; rw [hr] at this; exact this)) (fun i' h1 h2 h3 => ?_)
          have ei := uniq i' h1 h2 h3
          subst ei
          rw [hr]
          have hend : wpX_give__itemBody (fun u => match u with | (px, st, lf, cd, bg, gv, ob, ol, pb, pn, xp, fh, fl, fa, mk, cb, mi, mb, ml, pa, kb, kl, kc, th, pl, md, cr, hc, hg, hi, ib, il, it, qi, qc, gc, lc, lr, co) => ∀ x, x = nI k + 1 → wX_giveQueue_7 post (nI t) (nI (t * 8)) f x px st lf cd bg gv ob ol pb pn xp fh fl fa mk cb mi mb ml pa kb kl kc th pl md cr hc hg hi ib il it qi qc gc lc lr co) (px, st, lf, cd, bg, gv, ob, ol, pb, pn, xp, fh, fl, fa, mk, cb, mi, mb, ml, pa, kb, kl, kc, th, pl, md, cr, hc, hg, hi, ib, il, it, bk_shl qi (t * 8) N, upd qc t (nI N), gc, lc, lr, co) (nI r) (nI (q * 16)) (il q) (nI q) := by
            rw [o6]
            refine xk_g0_itemBody (a := a) (G := g (r / 4)) (t := t) hr16 o4 k4 k5 (by omega) sess.1 hG j3 k2 (by omega) (Or.inr ⟨q, o1, rfl⟩) (nm_r (nI_1 k) ?_)
            have xx := xd post f (k + 1) (by omega) (by omega) hp
            rw [o2] at xx
            rw [hl] at xx
            exact xx
          have w63 := xk_q63 (post := post) (J7 := wX_giveQueue_7 post (nI t) (nI (t * 8)) f) (t := t) (N := N) (q := q) (x3 := nI k) (x5 := nI r) ht (by omega) o1 hend (N + 1) 0 (by omega) (by omega)
          rw [bk_shl_0] at w63
          exact ⟨N + 1, w63⟩
        · intro lf cd bg kc pb pn yp ki le go mk cb mb ml la ps pd pt kw kh kf kz ky wo be ma wr post J2 f b' hf hb' hJ
          obtain ⟨f, rfl⟩ : ∃ f', f = f' + 1 := ⟨f - 1, by omega⟩
          rcases hb' with ⟨e, _⟩ | ⟨p', l', e, rfl⟩
          · cases e
          · cases e
            refine br_f (nI_pos (by omega)) ⟨18, yk_nt h ht o4 c0.1 o7 hb hlr (fun no => absurd canr (by have := no i hi16; rw [hr] at this; exact this)) (fun i' h1 h2 h3 => ?_) 18 0 (by omega) (by omega) (fun i hi => absurd hi (Nat.not_lt_zero i))⟩
            have ei := uniq i' h1 h2 h3
            subst ei
            rw [hr]
            refine br_f (nI_pos (by omega)) (yk_give (a := a) (G := g (r / 4)) (t := t) hr16 o4 k4 k5 c0.1 o7 sess.2.1 k2 (by omega) (-1) (Or.inl ⟨j3, rfl⟩) ?_)
            rw [wfe]
            refine br_t (nI_pos' (by omega)) (yk_firstAt w.1 (by omega) (by omega) (fun e => ?_) (fun p' l' e => ?_))
            · exact yd post J2 f (-1) (by omega) (Or.inl ⟨e, rfl⟩) hJ
            · exact yd post J2 f (nI p'.2.1) (by omega) (Or.inr ⟨p', l', e, rfl⟩) hJ
      · have k6' : ∃ c', cr r = nI c' ∧ c' ≤ 5 ∧ (A (3 + r)).length < c' := by
          rcases k6 with z | z
          · rw [j3] at z; exact absurd z (nI_ne0 (by omega) (by omega))
          · exact z
        obtain ⟨c', c1, c2, c3⟩ := k6'
        have w := dk_giveQ1 (a := a + 5 + n) h rh (by omega) ht hA hr16 k1 k2 j3 j4 m0 c1 c2 c3 (by omega)
        obtain ⟨d, hd, hdr, hth, xd, yd⟩ := ih (ob := bk_wf (bk_hd ob (r / 4) a n r (g (r / 4))) (r / 4) (a + 5) (fun k => ib (q * 16 + k)) n) (gc := upd gc t (gc t + 1)) (lc := lc) w.1 w.2 (by rw [bk_set_n (by omega), bk_set_s]; exact hl) (by omega)
        refine ⟨d, by rw [Nat.add_assoc, Nat.add_comm 1 N] at hd; exact hd, hdr, hth, ?_, ?_⟩
        · intro lf cd bg pb pn xp fh fl fa mk cb mi mb ml pa kb kl kc co px post f k hk hf hp
          obtain ⟨f, rfl⟩ : ∃ f', f = f' + 1 := ⟨f - 1, by omega⟩
          refine roadX post f k hk (fun no => absurd canr (by have := no i hi16; rw [hr] at this; exact this)) (fun i' h1 h2 h3 => ?_)
          have ei := uniq i' h1 h2 h3
          subst ei
          rw [hr]
          have hend : wpX_give__itemBody (fun u => match u with | (px, st, lf, cd, bg, gv, ob, ol, pb, pn, xp, fh, fl, fa, mk, cb, mi, mb, ml, pa, kb, kl, kc, th, pl, md, cr, hc, hg, hi, ib, il, it, qi, qc, gc, lc, lr, co) => ∀ x, x = nI k + 1 → wX_giveQueue_7 post (nI t) (nI (t * 8)) f x px st lf cd bg gv ob ol pb pn xp fh fl fa mk cb mi mb ml pa kb kl kc th pl md cr hc hg hi ib il it qi qc gc lc lr co) (px, st, lf, cd, bg, gv, ob, ol, pb, pn, xp, fh, fl, fa, mk, cb, mi, mb, ml, pa, kb, kl, kc, th, pl, md, cr, hc, hg, hi, ib, il, it, bk_shl qi (t * 8) N, upd qc t (nI N), gc, lc, lr, co) (nI r) (nI (q * 16)) (il q) (nI q) := by
            rw [o6]
            refine xk_g1_itemBody (a := a) (G := g (r / 4)) (t := t) (m := m) (c := (A (3 + r)).length) hr16 o4 k4 k5 (by omega) sess.1 hG j3 j4 m0 k2 (by omega) (rh r hr16).1 (by omega) (nm_r (nI_1 k) ?_)
            have xx := xd post f (k + 1) (by omega) (by omega) hp
            rw [o2] at xx
            rw [hl] at xx
            exact xx
          have w63 := xk_q63 (post := post) (J7 := wX_giveQueue_7 post (nI t) (nI (t * 8)) f) (t := t) (N := N) (q := q) (x3 := nI k) (x5 := nI r) ht (by omega) o1 hend (N + 1) 0 (by omega) (by omega)
          rw [bk_shl_0] at w63
          exact ⟨N + 1, w63⟩
        · intro lf cd bg kc pb pn yp ki le go mk cb mb ml la ps pd pt kw kh kf kz ky wo be ma wr post J2 f b' hf hb' hJ
          obtain ⟨f, rfl⟩ : ∃ f', f = f' + 1 := ⟨f - 1, by omega⟩
          rcases hb' with ⟨e, _⟩ | ⟨p', l', e, rfl⟩
          · cases e
          · cases e
            refine br_f (nI_pos (by omega)) ⟨18, yk_nt h ht o4 c0.1 o7 hb hlr (fun no => absurd canr (by have := no i hi16; rw [hr] at this; exact this)) (fun i' h1 h2 h3 => ?_) 18 0 (by omega) (by omega) (fun i hi => absurd hi (Nat.not_lt_zero i))⟩
            have ei := uniq i' h1 h2 h3
            subst ei
            rw [hr]
            refine br_f (nI_pos (by omega)) (yk_give (a := a) (G := g (r / 4)) (t := t) hr16 o4 k4 k5 c0.1 o7 sess.2.1 k2 (by omega) (nI (3 + r)) (Or.inr ⟨by rw [j3]; exact nI_ne0 (by omega) (by omega), rfl⟩) ?_)
            rw [wfe]
            refine br_t (nI_pos' (by omega)) (yk_firstAt w.1 (by omega) (by omega) (fun e => ?_) (fun p' l' e => ?_))
            · exact yd post J2 f (-1) (by omega) (Or.inl ⟨e, rfl⟩) hJ
            · exact yd post J2 f (nI p'.2.1) (by omega) (Or.inr ⟨p', l', e, rfl⟩) hJ
end QUEUE2
