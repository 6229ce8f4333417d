section UNP2
variable {B : Nat} {A : Nat → List bk_E} {g : Nat → Nat} {st lf cd bg gv ob ol pb pn xp fh fl fa mk cb mi mb ml pa kb kl kc th pl md cr hc hg hi ib il it qi qc gc lc lr co ta yp ki le go la ps pd pt kw kh kf kz ky wh od tg tr so bd wo be : Nat → Int32} {px fr en ma wr : Int32}
theorem lk_unp {mly : Nat → Int32} {s n k0 : Nat} {w : Nat → Nat} (hs : s < 4) (hn : n ≤ 200) (hk0 : k0 ≤ 64) (hpn : pn s = nI k0) (hby : bk_By pb) (hw : ∀ j, j < n → mb (200 * s + j) = nI (w j)) (hw2 : ∀ j, w j < 256) :
    ∀ (N m : Nat) (pa wo : Nat → Int32) (c : Nat), N ≤ n → m ≤ 200 → c ≤ 128 → bk_Ag m pa wo → ∃ (e m' : Nat) (pa' wo' : Nat → Int32), (e = 0 ∨ e = 7 ∨ e = 9) ∧ m' ≤ 200 ∧ bk_Ag m' pa' wo' ∧
      (∀ (post : Int32 → SX → Prop) (f : Nat), N < f → post (nI e) (nI m', st, lf, cd, bg, gv, ob, ol, pb, pn, xp, fh, fl, fa, mk, cb, mi, mb, ml, pa', kb, kl, kc, th, pl, md, cr, hc, hg, hi, ib, il, it, qi, qc, gc, lc, lr, co) → wX_unpack_20 post (nI s) (nI n) f (nI c) 0 (nI (n - N)) (nI m) st lf cd bg gv ob ol pb pn xp fh fl fa mk cb mi mb ml pa kb kl kc th pl md cr hc hg hi ib il it qi qc gc lc lr co) ∧
      (c = 0 → ∀ (post : SY → Prop) (f : Nat), N < f → post (fr, en, nI m', nI e, st, lf, cd, ta, bg, kc, ob, ol, pb, pn, yp, ki, le, go, mk, cb, mb, mly, la, ps, pd, pt, kw, kh, kf, kz, ky, th, pl, md, cr, gc, lc, lr, wh, od, tg, tr, so, bd, wo', be) → wY_unpack_2 post (nI s) (nI n) f (nI (n - N)) fr en (nI m) 0 st lf cd ta bg kc ob ol pb pn yp ki le go mk cb mb mly la ps pd pt kw kh kf kz ky th pl md cr gc lc lr wh od tg tr so bd wo be) ∧
      (∀ (post : SY → Prop) (f g b T J : Nat), b < 128 → T = J + c → T ≤ 200 → N < f → c + 1 < g → post (fr, en, nI m', nI e, st, lf, cd, ta, bg, kc, ob, ol, pb, pn, yp, ki, le, go, mk, cb, mb, mly, la, ps, pd, pt, kw, kh, kf, kz, ky, th, pl, md, cr, gc, lc, lr, wh, od, tg, tr, so, bd, wo', be) → wY_unpack_82 post (wY_unpack_2 post (nI s) (nI n) f) (nI s) (nI n) (nI b) (nI T) g (nI (n - N)) (nI J) fr en (nI m) 0 st lf cd ta bg kc ob ol pb pn yp ki le go mk cb mb mly la ps pd pt kw kh kf kz ky th pl md cr gc lc lr wh od tg tr so bd wo be) := by
  -- with nothing left to take, the inner loop's end is the outer loop's head
  have c0 : ∀ (N m e m' : Nat) (wo wo' : Nat → Int32), (∀ (post : SY → Prop) (f : Nat), N < f → post (fr, en, nI m', nI e, st, lf, cd, ta, bg, kc, ob, ol, pb, pn, yp, ki, le, go, mk, cb, mb, mly, la, ps, pd, pt, kw, kh, kf, kz, ky, th, pl, md, cr, gc, lc, lr, wh, od, tg, tr, so, bd, wo', be) → wY_unpack_2 post (nI s) (nI n) f (nI (n - N)) fr en (nI m) 0 st lf cd ta bg kc ob ol pb pn yp ki le go mk cb mb mly la ps pd pt kw kh kf kz ky th pl md cr gc lc lr wh od tg tr so bd wo be) →
      ∀ (post : SY → Prop) (f g b T J : Nat), b < 128 → T = J + 0 → T ≤ 200 → N < f → 0 + 1 < g → post (fr, en, nI m', nI e, st, lf, cd, ta, bg, kc, ob, ol, pb, pn, yp, ki, le, go, mk, cb, mb, mly, la, ps, pd, pt, kw, kh, kf, kz, ky, th, pl, md, cr, gc, lc, lr, wh, od, tg, tr, so, bd, wo', be) → wY_unpack_82 post (wY_unpack_2 post (nI s) (nI n) f) (nI s) (nI n) (nI b) (nI T) g (nI (n - N)) (nI J) fr en (nI m) 0 st lf cd ta bg kc ob ol pb pn yp ki le go mk cb mb mly la ps pd pt kw kh kf kz ky th pl md cr gc lc lr wh od tg tr so bd wo be := by
    intro N m e m' wo wo' y1 post f g b T J hb hT hT2 hf hg hp
    obtain ⟨g, rfl⟩ : ∃ g', g = g' + 1 := ⟨g - 1, by omega⟩
    exact br_t (nI_le (by omega) (by omega)) (br_t (nI_le (b := 127) (by omega) (by omega)) (y1 post f hf hp))
  intro N
  induction N using Nat.strongRecOn with
  | ind N ih =>
  intro m pa wo c hN hm hc128 ag
  cases N with
  | zero =>
    by_cases cz : c = 0
    · subst cz
      have y1 : ∀ (post : SY → Prop) (f : Nat), 0 < f → post (fr, en, nI m, nI 0, st, lf, cd, ta, bg, kc, ob, ol, pb, pn, yp, ki, le, go, mk, cb, mb, mly, la, ps, pd, pt, kw, kh, kf, kz, ky, th, pl, md, cr, gc, lc, lr, wh, od, tg, tr, so, bd, wo, be) → wY_unpack_2 post (nI s) (nI n) f (nI (n - 0)) fr en (nI m) 0 st lf cd ta bg kc ob ol pb pn yp ki le go mk cb mb mly la ps pd pt kw kh kf kz ky th pl md cr gc lc lr wh od tg tr so bd wo be := by
        intro post f hf hp
        obtain ⟨f, rfl⟩ : ∃ f', f = f' + 1 := ⟨f - 1, by omega⟩
        exact br_t (nI_le (by omega) (by omega)) hp
      refine ⟨0, m, pa, wo, Or.inl rfl, hm, ag, ?_, fun _ => y1, c0 0 m 0 m wo wo y1⟩
      intro post f hf hp
      obtain ⟨f, rfl⟩ : ∃ f', f = f' + 1 := ⟨f - 1, by omega⟩
      exact br_t (nI_le (by omega) (by omega)) (br_f (by decide) (br_t (by decide) hp))
    · refine ⟨7, m, pa, wo, Or.inr (Or.inl rfl), hm, ag, ?_, fun z => absurd z cz, ?_⟩
      · intro post f hf hp
        obtain ⟨f, rfl⟩ : ∃ f', f = f' + 1 := ⟨f - 1, by omega⟩
        exact br_t (nI_le (by omega) (by omega)) (br_t (nI_lt (a := 0) (by omega) (by omega)) hp)
      · intro post f g b T J hb hT hT2 hf hg hp
        obtain ⟨f, rfl⟩ : ∃ f', f = f' + 1 := ⟨f - 1, by omega⟩
        obtain ⟨g, rfl⟩ : ∃ g', g = g' + 1 + 1 := ⟨g - 2, by omega⟩
        have nb : ¬ (128 : Int32) ≤ nI b := nI_ge (b := 128) hb (by omega)
        have o := yk_uend82 (e := 7) (ma := nI m) (wo := wo) (s := s) (n := n) (k := n - 0 + 1) (b := b) (T := T) (J := J + 1) (post := post) hn (by omega) (by omega) (by omega) (by omega) (by omega) (by omega) hp f g
        refine br_f (nI_ge (by omega) (by omega)) (br_t rfl (br_f nb (br_t (by rw [Nat.sub_zero]) (br_f nb (br_t (by rw [Nat.sub_zero]; exact nI_le (by omega) (by omega)) (br_f nb (nm_r (nI_1 _) (br_t (by decide) ?_))))))))
        exact br_c (fun _ => br_f (by decide) (br_f (by decide) (nm_r (nI_1 _) o))) (fun _ => br_f (by decide) (nm_r (nI_1 _) o))
  | succ M =>
    have hk : n - (M + 1) < n := by omega
    have ek : n - M = n - (M + 1) + 1 := by omega
    generalize hk0' : n - (M + 1) = k at *
    have hwk := hw k hk
    have hv := hw2 k
    generalize hv0 : w k = v at *
    have ex : nI s * 200 + nI k = nI (200 * s + k) := by rw [bn_mul, nI_add, Nat.mul_comm]
    have ey : 200 * nI s + nI k = nI (200 * s + k) := by rw [bn_mul2, nI_add]
    have ck : (nI (200 * s + k)).toNatClampNeg = 200 * s + k := nI_clamp (by omega)
    have i8 : vp_in (nI (200 * s + k)) 800 := vp_in_nI (by omega) (by omega)
    have nk : ¬ nI n ≤ nI k := nI_ge hk (by omega)
    by_cases cz : c = 0
    rotate_left
    · -- a byte that is taken as it is
      have cm : (nI m).toNatClampNeg = m := nI_clamp (by omega)
      by_cases m2 : m = 200
      · subst m2
        refine ⟨9, 200, pa, wo, Or.inr (Or.inr rfl), Nat.le_refl _, ag, ?_, fun z => absurd z cz, ?_⟩
        · intro post f hf hp
          obtain ⟨f, rfl⟩ : ∃ f', f = f' + 1 := ⟨f - 1, by omega⟩
          refine br_f nk ?_
          rw [ex, ck, hwk]
          exact ⟨i8, nm_e (br_f (nI_nle (by omega) (by omega)) (br_t rfl hp))⟩
        · intro post f g b T J hb hT hT2 hf hg hp
          obtain ⟨f, rfl⟩ : ∃ f', f = f' + 1 := ⟨f - 1, by omega⟩
          obtain ⟨g, rfl⟩ : ∃ g', g = g' + 1 + 1 := ⟨g - 2, by omega⟩
          have nb : ¬ (128 : Int32) ≤ nI b := nI_ge (b := 128) hb (by omega)
          have o := yk_uend82 (e := 9) (ma := nI 200) (wo := wo) (s := s) (n := n) (k := k + 1) (b := b) (T := T) (J := J + 1) (post := post) hn (by omega) (by omega) (by omega) (by omega) (by omega) (by omega) hp f g
          refine br_f (nI_ge (by omega) (by omega)) (br_t rfl (br_f nb (br_f (fun z => by have := (nI_eq (by omega) (by omega)).mp z; omega) (br_f nb (br_f nk ?_)))))
          rw [ey, ck, hwk]
          exact ⟨i8, br_f nb (nm_r (nI_1 k) (br_t (nI_pos' (by omega)) (br_t rfl (br_t rfl (br_f (by decide) (nm_r (nI_1 J) o))))))⟩
      · obtain ⟨e, m', pa', wo', he, hm', ag', x1, _, y2⟩ := ih M (by omega) (m + 1) (upd pa m (nI v)) (upd wo m (nI v)) (c - 1) (by omega) (by omega) (by omega) (bk_Ag_up ag hv)
        rw [ek] at x1 y2
        refine ⟨e, m', pa', wo', he, hm', ag', ?_, fun z => absurd z cz, ?_⟩
        · intro post f hf hp
          obtain ⟨f, rfl⟩ : ∃ f', f = f' + 1 := ⟨f - 1, by omega⟩
          have xx := x1 post f (by omega) hp
          refine br_f nk ?_
          rw [ex, ck, hwk]
          refine ⟨i8, nm_e (br_f (nI_nle (by omega) (by omega)) (br_f (fun x => m2 ((nI_eq (a := m) (b := 200) (by omega) (by omega)).mp x)) ⟨vp_in_nI (by omega) (by omega), ?_⟩))⟩
          rw [cm]
          exact nm_e (nm_r (nI_1 m) (nm_r (bn_m1 c (by omega)) (nm_r (nI_1 k) xx)))
        · intro post f g b T J hb hT hT2 hf hg hp
          obtain ⟨g, rfl⟩ : ∃ g', g = g' + 1 := ⟨g - 1, by omega⟩
          have nb : ¬ (128 : Int32) ≤ nI b := nI_ge (b := 128) hb (by omega)
          have yy := y2 post f g b T (J + 1) hb (by omega) hT2 (by omega) (by omega) hp
          refine br_f (nI_ge (by omega) (by omega)) (br_t rfl (br_f nb (br_f (fun z => by have := (nI_eq (by omega) (by omega)).mp z; omega) (br_f nb (br_f nk ?_)))))
          rw [ey, ck, hwk]
          refine ⟨i8, br_f nb (nm_r (nI_1 k) (br_t (nI_pos' (by omega)) (br_f (fun x => m2 ((nI_eq (a := m) (b := 200) (by omega) (by omega)).mp x)) (br_t (by decide) ⟨vp_in_nI (by omega) (by omega), ?_⟩))))⟩
          rw [cm]
          exact nm_e (nm_r (nI_1 m) (nm_r (nI_1 J) yy))
    · subst cz
      -- a code
      by_cases lit : v < 128
      · obtain ⟨e, m', pa', wo', he, hm', ag', x1, _, y2⟩ := ih M (by omega) m pa wo (v + 1) (by omega) hm (by omega) ag
        rw [ek] at x1 y2
        have y1 : ∀ (post : SY → Prop) (f : Nat), M + 1 < f → post (fr, en, nI m', nI e, st, lf, cd, ta, bg, kc, ob, ol, pb, pn, yp, ki, le, go, mk, cb, mb, mly, la, ps, pd, pt, kw, kh, kf, kz, ky, th, pl, md, cr, gc, lc, lr, wh, od, tg, tr, so, bd, wo', be) → wY_unpack_2 post (nI s) (nI n) f (nI k) fr en (nI m) 0 st lf cd ta bg kc ob ol pb pn yp ki le go mk cb mb mly la ps pd pt kw kh kf kz ky th pl md cr gc lc lr wh od tg tr so bd wo be := by
          intro post f hf hp
          obtain ⟨f, rfl⟩ : ∃ f', f = f' + 1 := ⟨f - 1, by omega⟩
          have yy := y2 post f (v + 3) v (v + 1) 0 lit (by omega) (by omega) (by omega) (by omega) hp
          refine br_f nk (br_t rfl ?_)
          rw [ey, ck, hwk]
          refine ⟨i8, nm_e (br_f (nI_ge (b := 128) lit (by omega)) ?_)⟩
          rw [nI_1 v]
          exact nm_r (nI_1 k) (br_f (nI_nlt (a := 159) (by omega) (by omega)) (br_t (nI_le (b := 127) (by omega) (by omega)) ⟨_, yy⟩))
        refine ⟨e, m', pa', wo', he, hm', ag', ?_, fun _ => y1, ?_⟩
        · intro post f hf hp
          obtain ⟨f, rfl⟩ : ∃ f', f = f' + 1 := ⟨f - 1, by omega⟩
          have xx := x1 post f (by omega) hp
          refine br_f nk ?_
          rw [ex, ck, hwk]
          exact ⟨i8, nm_e (br_t (by decide) (br_t (by decide) (br_f (nI_ge (b := 128) lit (by omega)) (nm_r (nI_1 v) (nm_r (nI_1 k) xx)))))⟩
        · have z := c0 (M + 1) m e m' wo wo' (by rw [hk0']; exact y1)
          rw [hk0'] at z
          exact z
      · have e126 : nI v - 126 = nI (v - 126) := pk_sub (a := v) (b := 126) (by omega)
        have x126 : nI v - 128 + 2 = nI (v - 126) := by
          have a1 : nI v - 128 = nI (v - 128) := pk_sub (a := v) (b := 128) (by omega)
          have a2 : nI (v - 128) + 2 = nI (v - 128 + 2) := nI_add (v - 128) 2
          rw [a1, a2]
          exact congrArg nI (by omega)
        have hv128 : (128 : Int32) ≤ nI v := nI_le (a := 128) (by omega) (by omega)
        -- Y's way into the code
        have yin : ∀ (post : SY → Prop) (f : Nat), wY_unpack_48 post (wY_unpack_2 post (nI s) (nI n) f) (nI s) (nI n) (nI k) (nI v) (nI (v - 126)) fr en (nI m) 0 st lf cd ta bg kc ob ol pb pn yp ki le go mk cb mb mly la ps pd pt kw kh kf kz ky th pl md cr gc lc lr wh od tg tr so bd wo be → wY_unpack_2 post (nI s) (nI n) (f + 1) (nI k) fr en (nI m) 0 st lf cd ta bg kc ob ol pb pn yp ki le go mk cb mb mly la ps pd pt kw kh kf kz ky th pl md cr gc lc lr wh od tg tr so bd wo be := by
          intro post f hp
          refine br_f nk (br_t rfl ?_)
          rw [ey, ck, hwk]
          refine ⟨i8, nm_e (br_t hv128 ?_)⟩
          rw [e126]
          exact hp
        by_cases bad : 160 ≤ v
        · have y1 : ∀ (post : SY → Prop) (f : Nat), M + 1 < f → post (fr, en, nI m, nI 7, st, lf, cd, ta, bg, kc, ob, ol, pb, pn, yp, ki, le, go, mk, cb, mb, mly, la, ps, pd, pt, kw, kh, kf, kz, ky, th, pl, md, cr, gc, lc, lr, wh, od, tg, tr, so, bd, wo, be) → wY_unpack_2 post (nI s) (nI n) f (nI k) fr en (nI m) 0 st lf cd ta bg kc ob ol pb pn yp ki le go mk cb mb mly la ps pd pt kw kh kf kz ky th pl md cr gc lc lr wh od tg tr so bd wo be := by
            intro post f hf hp
            obtain ⟨f, rfl⟩ : ∃ f', f = f' + 1 + 1 := ⟨f - 2, by omega⟩
            refine yin post (f + 1) (nm_r (nI_1 k) (br_t (nI_lt (a := 159) (by omega) (by omega)) ⟨1, ?_⟩))
            exact yk_uend82 (e := 7) (ma := nI m) (wo := wo) (J := 0) hn (by omega) (by omega) (by omega) hv (by omega) (by omega) hp f 0
          refine ⟨7, m, pa, wo, Or.inr (Or.inl rfl), hm, ag, ?_, fun _ => y1, ?_⟩
          · intro post f hf hp
            obtain ⟨f, rfl⟩ : ∃ f', f = f' + 1 := ⟨f - 1, by omega⟩
            refine br_f nk ?_
            rw [ex, ck, hwk]
            exact ⟨i8, nm_e (br_t (by decide) (br_t (by decide) (br_t hv128 (br_t (nI_le (a := 160) (by omega) (by omega)) hp))))⟩
          · have z := c0 (M + 1) m 7 m wo wo (by rw [hk0']; exact y1)
            rw [hk0'] at z
            exact z
        · -- X's way to the byte behind
          have xin : ∀ (post : Int32 → SX → Prop) (f : Nat), wX_unpack_20 post (nI s) (nI n) f (nI 0) (nI (v - 126)) (nI (k + 1)) (nI m) st lf cd bg gv ob ol pb pn xp fh fl fa mk cb mi mb ml pa kb kl kc th pl md cr hc hg hi ib il it qi qc gc lc lr co → wX_unpack_20 post (nI s) (nI n) (f + 1) (nI 0) 0 (nI k) (nI m) st lf cd bg gv ob ol pb pn xp fh fl fa mk cb mi mb ml pa kb kl kc th pl md cr hc hg hi ib il it qi qc gc lc lr co := by
            intro post f hp
            refine br_f nk ?_
            rw [ex, ck, hwk]
            exact ⟨i8, nm_e (br_t (by decide) (br_t (by decide) (br_t hv128 (br_f (nI_ge (b := 160) (by omega) (by omega)) (nm_r x126 (nm_r (nI_1 k) hp))))))⟩
          have n159 : ¬ (159 : Int32) < nI v := nI_nlt (a := 159) (by omega) (by omega)
          have n127 : ¬ nI v ≤ (127 : Int32) := nI_ge (a := 127) (by omega) (by omega)
          by_cases last : k + 1 = n
          · have y1 : ∀ (post : SY → Prop) (f : Nat), M + 1 < f → post (fr, en, nI m, nI 7, st, lf, cd, ta, bg, kc, ob, ol, pb, pn, yp, ki, le, go, mk, cb, mb, mly, la, ps, pd, pt, kw, kh, kf, kz, ky, th, pl, md, cr, gc, lc, lr, wh, od, tg, tr, so, bd, wo, be) → wY_unpack_2 post (nI s) (nI n) f (nI k) fr en (nI m) 0 st lf cd ta bg kc ob ol pb pn yp ki le go mk cb mb mly la ps pd pt kw kh kf kz ky th pl md cr gc lc lr wh od tg tr so bd wo be := by
              intro post f hf hp
              obtain ⟨f, rfl⟩ : ∃ f', f = f' + 1 + 1 := ⟨f - 2, by omega⟩
              refine yin post (f + 1) (nm_r (nI_1 k) (br_f n159 (br_f n127 (br_t (by rw [last]) ⟨1, ?_⟩))))
              exact yk_uend82 (e := 7) (ma := nI m) (wo := wo) (J := 0) hn (by omega) (by omega) (by omega) hv (by omega) (by omega) hp f 0
            refine ⟨7, m, pa, wo, Or.inr (Or.inl rfl), hm, ag, ?_, fun _ => y1, ?_⟩
            · intro post f hf hp
              obtain ⟨f, rfl⟩ : ∃ f', f = f' + 1 + 1 := ⟨f - 2, by omega⟩
              refine xin post (f + 1) (br_t (by rw [last]; exact nI_le (Nat.le_refl _) (by omega)) (br_f (by decide) (br_f (nI_nle (by omega) (by omega)) hp)))
            · have z := c0 (M + 1) m 7 m wo wo (by rw [hk0']; exact y1)
              rw [hk0'] at z
              exact z
          · have hk1 : k + 1 < n := by omega
            have hd := hw2 (k + 1)
            have hwd := hw (k + 1) hk1
            generalize hd0 : w (k + 1) = dd at *
            have cs : (nI s).toNatClampNeg = s := nI_clamp (by omega)
            have ex1 : nI s * 200 + nI (k + 1) = nI (200 * s + (k + 1)) := by rw [bn_mul, nI_add, Nat.mul_comm]
            have ey1 : 200 * nI s + nI (k + 1) = nI (200 * s + (k + 1)) := by rw [bn_mul2, nI_add]
            have ck1 : (nI (200 * s + (k + 1))).toNatClampNeg = 200 * s + (k + 1) := nI_clamp (by omega)
            have nkn : ¬ nI (k + 1) = nI n := fun z => by have := (nI_eq (by omega) (by omega)).mp z; omega
            -- X's way to copyBack
            have xin2 : ∀ (post : Int32 → SX → Prop) (f : Nat), wpX_copyBack (fun r u => match u with | (px, st, lf, cd, bg, gv, ob, ol, pb, pn, xp, fh, fl, fa, mk, cb, mi, mb, ml, pa, kb, kl, kc, th, pl, md, cr, hc, hg, hi, ib, il, it, qi, qc, gc, lc, lr, co) => ((r = 0 → (∀ y, y = nI (k + 1) + 1 → wX_unpack_20 post (nI s) (nI n) f (nI 0) 0 y px st lf cd bg gv ob ol pb pn xp fh fl fa mk cb mi mb ml pa kb kl kc th pl md cr hc hg hi ib il it qi qc gc lc lr co)) ∧ (¬ r = 0 → post r (px, st, lf, cd, bg, gv, ob, ol, pb, pn, xp, fh, fl, fa, mk, cb, mi, mb, ml, pa, kb, kl, kc, th, pl, md, cr, hc, hg, hi, ib, il, it, qi, qc, gc, lc, lr, co)))) (nI m, st, lf, cd, bg, gv, ob, ol, pb, pn, xp, fh, fl, fa, mk, cb, mi, mb, ml, pa, kb, kl, kc, th, pl, md, cr, hc, hg, hi, ib, il, it, qi, qc, gc, lc, lr, co) (nI s) (nI (v - 126)) (nI (dd + 1)) → wX_unpack_20 post (nI s) (nI n) (f + 1 + 1) (nI 0) 0 (nI k) (nI m) st lf cd bg gv ob ol pb pn xp fh fl fa mk cb mi mb ml pa kb kl kc th pl md cr hc hg hi ib il it qi qc gc lc lr co := by
              intro post f hp
              refine xin post (f + 1) (br_f (nI_ge hk1 (by omega)) ?_)
              rw [ex1, ck1, hwd]
              refine ⟨vp_in_nI (by omega) (by omega), nm_e (br_t (by decide) (br_f (nI_nle (by omega) (by omega)) ?_))⟩
              rw [nI_1 dd]
              exact hp
            by_cases far : dd + 1 ≤ k0 + m
            · obtain ⟨e1, m1, pa1, wo1, he1, hm1, ag1, x1, y1⟩ := lk_copy (n := n) (k := k + 1) (b := v) (T := v - 126) hs hn hk0 hd (by omega) hk1 (by omega) (by omega) hpn hby hwd (v - 126) m pa wo (Nat.le_refl _) hm far ag
              rw [Nat.sub_self] at x1 y1
              rcases he1 with rfl | rfl
              · obtain ⟨e, m', pa', wo', he, hm', ag', x3, y3, _⟩ := ih (M - 1) (by omega) m1 pa1 wo1 0 (by omega) hm1 (by omega) ag1
                have ek2 : n - (M - 1) = k + 1 + 1 := by omega
                rw [ek2] at x3 y3
                have y0 : ∀ (post : SY → Prop) (f : Nat), M + 1 < f → post (fr, en, nI m', nI e, st, lf, cd, ta, bg, kc, ob, ol, pb, pn, yp, ki, le, go, mk, cb, mb, mly, la, ps, pd, pt, kw, kh, kf, kz, ky, th, pl, md, cr, gc, lc, lr, wh, od, tg, tr, so, bd, wo', be) → wY_unpack_2 post (nI s) (nI n) f (nI k) fr en (nI m) 0 st lf cd ta bg kc ob ol pb pn yp ki le go mk cb mb mly la ps pd pt kw kh kf kz ky th pl md cr gc lc lr wh od tg tr so bd wo be := by
                  intro post f hf hp
                  obtain ⟨f, rfl⟩ : ∃ f', f = f' + 1 + 1 := ⟨f - 2, by omega⟩
                  refine yin post (f + 1) (nm_r (nI_1 k) (br_f n159 (br_f n127 (br_f nkn ⟨v - 126 + 1, ?_⟩))))
                  exact y1 post f _ (by omega) (fun z => absurd z (by decide)) (fun _ => y3 rfl post (f + 1) (by omega) hp)
                refine ⟨e, m', pa', wo', he, hm', ag', ?_, fun _ => y0, ?_⟩
                · intro post f hf hp
                  obtain ⟨f, rfl⟩ : ∃ f', f = f' + 1 + 1 := ⟨f - 2, by omega⟩
                  refine xin2 post f ⟨pk_in s 4 hs, ?_⟩
                  rw [cs, hpn]
                  refine nm_e ?_
                  rw [nI_add]
                  refine br_t (nI_le far (by omega)) ⟨v - 126 + 1, x1 _ _ (by omega) (br_t rfl (nm_r (nI_1 _) ?_))⟩
                  exact x3 post f (by omega) hp
                · have z := c0 (M + 1) m e m' wo wo' (by rw [hk0']; exact y0)
                  rw [hk0'] at z
                  exact z
              · have y0 : ∀ (post : SY → Prop) (f : Nat), M + 1 < f → post (fr, en, nI m1, nI 9, st, lf, cd, ta, bg, kc, ob, ol, pb, pn, yp, ki, le, go, mk, cb, mb, mly, la, ps, pd, pt, kw, kh, kf, kz, ky, th, pl, md, cr, gc, lc, lr, wh, od, tg, tr, so, bd, wo1, be) → wY_unpack_2 post (nI s) (nI n) f (nI k) fr en (nI m) 0 st lf cd ta bg kc ob ol pb pn yp ki le go mk cb mb mly la ps pd pt kw kh kf kz ky th pl md cr gc lc lr wh od tg tr so bd wo be := by
                  intro post f hf hp
                  obtain ⟨f, rfl⟩ : ∃ f', f = f' + 1 + 1 := ⟨f - 2, by omega⟩
                  refine yin post (f + 1) (nm_r (nI_1 k) (br_f n159 (br_f n127 (br_f nkn ⟨v - 126 + 1, ?_⟩))))
                  exact y1 post f _ (by omega) (fun _ => hp) (fun z => absurd z (by decide))
                refine ⟨9, m1, pa1, wo1, Or.inr (Or.inr rfl), hm1, ag1, ?_, fun _ => y0, ?_⟩
                · intro post f hf hp
                  obtain ⟨f, rfl⟩ : ∃ f', f = f' + 1 + 1 := ⟨f - 2, by omega⟩
                  refine xin2 post f ⟨pk_in s 4 hs, ?_⟩
                  rw [cs, hpn]
                  refine nm_e ?_
                  rw [nI_add]
                  exact br_t (nI_le far (by omega)) ⟨v - 126 + 1, x1 _ _ (by omega) (br_f (by decide) hp)⟩
                · have z := c0 (M + 1) m 9 m1 wo wo1 (by rw [hk0']; exact y0)
                  rw [hk0'] at z
                  exact z
            · have y0 : ∀ (post : SY → Prop) (f : Nat), M + 1 < f → post (fr, en, nI m, nI 7, st, lf, cd, ta, bg, kc, ob, ol, pb, pn, yp, ki, le, go, mk, cb, mb, mly, la, ps, pd, pt, kw, kh, kf, kz, ky, th, pl, md, cr, gc, lc, lr, wh, od, tg, tr, so, bd, wo, be) → wY_unpack_2 post (nI s) (nI n) f (nI k) fr en (nI m) 0 st lf cd ta bg kc ob ol pb pn yp ki le go mk cb mb mly la ps pd pt kw kh kf kz ky th pl md cr gc lc lr wh od tg tr so bd wo be := by
                intro post f hf hp
                obtain ⟨f, rfl⟩ : ∃ f', f = f' + 1 + 1 := ⟨f - 2, by omega⟩
                have o := yk_uend82 (e := 7) (ma := nI m) (wo := wo) (s := s) (n := n) (k := k + 1) (b := v) (T := v - 126) (J := 1) (post := post) hn (by omega) (by omega) (by omega) hv (by omega) (by omega) hp f 0
                refine yin post (f + 1) (nm_r (nI_1 k) (br_f n159 (br_f n127 (br_f nkn ⟨2, ?_⟩))))
                refine br_f (nI_nle (by omega) (by omega)) (br_t rfl (br_t hv128 (br_t hv128 ?_)))
                rw [ey1, ck1, hwd]
                refine ⟨vp_in_nI (by omega) (by omega), nm_r (ar_2 m dd) ⟨pk_in s 4 hs, ?_⟩⟩
                rw [cs, hpn]
                have e4 : nI k0 + (nI m - nI (dd + 1)) = nI (k0 + m) - nI (dd + 1) := ar_3 k0 m (dd + 1)
                refine nm_r e4 (br_t (pk_sneg (by omega) (by omega)) (br_t (pk_sneg (by omega) (by omega)) (br_t hv128 (br_f (by decide) ?_))))
                exact br_c (fun _ => br_f (by decide) (br_f (by decide) (nm_r (nI_1 0) o))) (fun _ => br_f (by decide) (nm_r (nI_1 0) o))
              refine ⟨7, m, pa, wo, Or.inr (Or.inl rfl), hm, ag, ?_, fun _ => y0, ?_⟩
              · intro post f hf hp
                obtain ⟨f, rfl⟩ : ∃ f', f = f' + 1 + 1 := ⟨f - 2, by omega⟩
                refine xin2 post f ⟨pk_in s 4 hs, ?_⟩
                rw [cs, hpn]
                refine nm_e ?_
                rw [nI_add]
                exact br_f (nI_ge (by omega) (by omega)) (br_f (by decide) hp)
              · have z := c0 (M + 1) m 7 m wo wo (by rw [hk0']; exact y0)
                rw [hk0'] at z
                exact z
end UNP2
