/-! unpacking, in lockstep -/
def bk_Ag (m : Nat) (pa wo : Nat → Int32) : Prop := ∀ j, j < m → ∃ v : Nat, v < 256 ∧ pa j = nI v ∧ wo j = nI v
theorem bk_Ag_up {m v : Nat} {pa wo : Nat → Int32} (h : bk_Ag m pa wo) (hv : v < 256) : bk_Ag (m + 1) (upd pa m (nI v)) (upd wo m (nI v)) := by
  intro j hj
  by_cases e : j = m
  · subst e; exact ⟨v, hv, pk_us, pk_us⟩
  · rw [pk_un e, pk_un e]; exact h j (by omega)
theorem ar_1 (a b c : Nat) (h : c ≤ a + b) : nI a + (nI b - nI c) = nI (a + b - c) := by
  rw [← pk_sub h, ← nI_add]
  grind
theorem ar_2 (m d : Nat) : nI m - 1 - nI d = nI m - nI (d + 1) := by
  rw [← nI_1]
  grind
theorem ar_3 (a b c : Nat) : nI a + (nI b - nI c) = nI (a + b) - nI c := by
  rw [← nI_add]
  grind
section UNP
variable {B : Nat} {A : Nat → List bk_E} {g : Nat → Nat} {st lf cd bg gv ob ol pb pn xp fh fl fa mk cb mi mb ml pa kb kl kc th pl md cr hc hg hi ib il it qi qc gc lc lr co ta yp ki le go la ps pd pt kw kh kf kz ky wh od tg tr so bd wo be : Nat → Int32} {px fr en ma wr : Int32}
/-- Y, once something is wrong: to the end -/
theorem yk_uend {post : SY → Prop} {s n k e : Nat} (hn : n ≤ 200) (hk : k ≤ 300) (he : 0 < e) (he2 : e < 100) (hp : post (fr, en, ma, nI e, st, lf, cd, ta, bg, kc, ob, ol, pb, pn, yp, ki, le, go, mk, cb, mb, ml, la, ps, pd, pt, kw, kh, kf, kz, ky, th, pl, md, cr, gc, lc, lr, wh, od, tg, tr, so, bd, wo, be)) : ∀ f, wY_unpack_2 post (nI s) (nI n) (f + 1) (nI k) fr en ma (nI e) st lf cd ta bg kc ob ol pb pn yp ki le go mk cb mb ml la ps pd pt kw kh kf kz ky th pl md cr gc lc lr wh od tg tr so bd wo be := by
  intro f
  exact pk_le n k (fun _ => hp) (fun _ => br_f (nI_ne0 he (by omega)) hp)
theorem yk_uend82 {post : SY → Prop} {s n k e b T J : Nat} (hn : n ≤ 200) (hk : k ≤ 250) (he : 0 < e) (he2 : e < 100) (hb : b < 256) (hT : T < 300) (hJ : J < 300) (hp : post (fr, en, ma, nI e, st, lf, cd, ta, bg, kc, ob, ol, pb, pn, yp, ki, le, go, mk, cb, mb, ml, la, ps, pd, pt, kw, kh, kf, kz, ky, th, pl, md, cr, gc, lc, lr, wh, od, tg, tr, so, bd, wo, be)) : ∀ f g, wY_unpack_82 post (wY_unpack_2 post (nI s) (nI n) (f + 1)) (nI s) (nI n) (nI b) (nI T) (g + 1) (nI k) (nI J) fr en ma (nI e) st lf cd ta bg kc ob ol pb pn yp ki le go mk cb mb ml la ps pd pt kw kh kf kz ky th pl md cr gc lc lr wh od tg tr so bd wo be := by
  intro f g
  have w : wY_unpack_200 post (wY_unpack_2 post (nI s) (nI n) (f + 1)) (nI s) (nI n) (nI k) (nI b) fr en ma (nI e) st lf cd ta bg kc ob ol pb pn yp ki le go mk cb mb ml la ps pd pt kw kh kf kz ky th pl md cr gc lc lr wh od tg tr so bd wo be :=
    pk_le b 127 (fun _ => yk_uend hn (by omega) he he2 hp f) (fun _ => nm_r (nI_1 k) (yk_uend hn (by omega) he he2 hp f))
  exact pk_le T J (fun _ => w) (fun _ => br_f (nI_ne0 he (by omega)) w)
/-- copies: the loops of both sides from a place where k0 + m bytes are known -/
theorem lk_copy {mly : Nat → Int32} {s n k0 dd T k b : Nat} (hs : s < 4) (hn : n ≤ 200) (hk0 : k0 ≤ 64) (hdd : dd < 256) (hT : T ≤ 40) (hk : k < n) (hb : 128 ≤ b) (hb2 : b < 160) (hpn : pn s = nI k0) (hby : bk_By pb) (hmb : mb (200 * s + k) = nI dd) :
    ∀ (N m : Nat) (pa wo : Nat → Int32), N ≤ T → m ≤ 200 → dd + 1 ≤ k0 + m → bk_Ag m pa wo → ∃ (e m' : Nat) (pa' wo' : Nat → Int32), (e = 0 ∨ e = 9) ∧ m' ≤ 200 ∧ bk_Ag m' pa' wo' ∧
      (∀ (post : Int32 → SX → Prop) (f : Nat), N < f → post (nI e) (nI m', st, lf, cd, bg, gv, ob, ol, pb, pn, xp, fh, fl, fa, mk, cb, mi, mb, ml, pa', kb, kl, kc, th, pl, md, cr, hc, hg, hi, ib, il, it, qi, qc, gc, lc, lr, co) → wX_copyBack_25 post (nI s) (nI T) (nI (dd + 1)) (nI k0) f (nI (T - N)) (nI m) st lf cd bg gv ob ol pb pn xp fh fl fa mk cb mi mb ml pa kb kl kc th pl md cr hc hg hi ib il it qi qc gc lc lr co) ∧
      (∀ (post : SY → Prop) (f g : Nat), N < g → (e = 9 → post (fr, en, nI m', nI 9, st, lf, cd, ta, bg, kc, ob, ol, pb, pn, yp, ki, le, go, mk, cb, mb, mly, la, ps, pd, pt, kw, kh, kf, kz, ky, th, pl, md, cr, gc, lc, lr, wh, od, tg, tr, so, bd, wo', be)) → (e = 0 → wY_unpack_2 post (nI s) (nI n) (f + 1) (nI (k + 1)) fr en (nI m') 0 st lf cd ta bg kc ob ol pb pn yp ki le go mk cb mb mly la ps pd pt kw kh kf kz ky th pl md cr gc lc lr wh od tg tr so bd wo' be) →
        wY_unpack_82 post (wY_unpack_2 post (nI s) (nI n) (f + 1)) (nI s) (nI n) (nI b) (nI T) g (nI k) (nI (T - N)) fr en (nI m) 0 st lf cd ta bg kc ob ol pb pn yp ki le go mk cb mb mly la ps pd pt kw kh kf kz ky th pl md cr gc lc lr wh od tg tr so bd wo be) := by
  have cs : (nI s).toNatClampNeg = s := nI_clamp (by omega)
  have e200 : 200 * nI s + nI k = nI (200 * s + k) := by rw [bn_mul2, nI_add]
  have c200 : (nI (200 * s + k)).toNatClampNeg = 200 * s + k := nI_clamp (by omega)
  intro N
  induction N with
  | zero =>
    intro m pa wo _ hm hd ag
    refine ⟨0, m, pa, wo, Or.inl rfl, hm, ag, ?_, ?_⟩
    · intro post f hf hp
      obtain ⟨f, rfl⟩ : ∃ f', f = f' + 1 := ⟨f - 1, by omega⟩
      exact br_t (nI_le (by omega) (by omega)) hp
    · intro post f g hg _ h0
      obtain ⟨g, rfl⟩ : ∃ g', g = g' + 1 := ⟨g - 1, by omega⟩
      exact br_t (nI_le (by omega) (by omega)) (br_f (nI_ge (a := 127) (by omega) (by omega)) (nm_r (nI_1 k) (h0 rfl)))
  | succ N ih =>
    intro m pa wo hN hm hd ag
    have eT : T - N = T - (N + 1) + 1 := by omega
    -- the byte that is meant
    have val : ∃ v : Nat, v < 256 ∧ (dd + 1 ≤ m → pa (m - (dd + 1)) = nI v ∧ wo (m - (dd + 1)) = nI v) ∧ (m < dd + 1 → pb (64 * s + (k0 + m - (dd + 1))) = nI v) := by
      by_cases z : dd + 1 ≤ m
      · obtain ⟨v, h1, h2, h3⟩ := ag (m - (dd + 1)) (by omega)
        exact ⟨v, h1, fun _ => ⟨h2, h3⟩, fun x => by omega⟩
      · obtain ⟨v, h1, h2⟩ := hby (64 * s + (k0 + m - (dd + 1)))
        exact ⟨v, h1, fun x => absurd x z, fun _ => h2⟩
    obtain ⟨v, hv, vA, vB⟩ := val
    -- Y finds it
    have yv : ∀ (post : SY → Prop) (J2 : Int32 → Int32 → Int32 → Int32 → Int32 → (Nat → Int32) → (Nat → Int32) → (Nat → Int32) → (Nat → Int32) → (Nat → Int32) → (Nat → Int32) → (Nat → Int32) → (Nat → Int32) → (Nat → Int32) → (Nat → Int32) → (Nat → Int32) → (Nat → Int32) → (Nat → Int32) → (Nat → Int32) → (Nat → Int32) → (Nat → Int32) → (Nat → Int32) → (Nat → Int32) → (Nat → Int32) → (Nat → Int32) → (Nat → Int32) → (Nat → Int32) → (Nat → Int32) → (Nat → Int32) → (Nat → Int32) → (Nat → Int32) → (Nat → Int32) → (Nat → Int32) → (Nat → Int32) → (Nat → Int32) → (Nat → Int32) → (Nat → Int32) → (Nat → Int32) → (Nat → Int32) → (Nat → Int32) → (Nat → Int32) → (Nat → Int32) → (Nat → Int32) → (Nat → Int32) → (Nat → Int32) → (Nat → Int32) → (Nat → Int32) → Prop) (J82 : Int32 → Int32 → Int32 → Int32 → Int32 → Int32 → (Nat → Int32) → (Nat → Int32) → (Nat → Int32) → (Nat → Int32) → (Nat → Int32) → (Nat → Int32) → (Nat → Int32) → (Nat → Int32) → (Nat → Int32) → (Nat → Int32) → (Nat → Int32) → (Nat → Int32) → (Nat → Int32) → (Nat → Int32) → (Nat → Int32) → (Nat → Int32) → (Nat → Int32) → (Nat → Int32) → (Nat → Int32) → (Nat → Int32) → (Nat → Int32) → (Nat → Int32) → (Nat → Int32) → (Nat → Int32) → (Nat → Int32) → (Nat → Int32) → (Nat → Int32) → (Nat → Int32) → (Nat → Int32) → (Nat → Int32) → (Nat → Int32) → (Nat → Int32) → (Nat → Int32) → (Nat → Int32) → (Nat → Int32) → (Nat → Int32) → (Nat → Int32) → (Nat → Int32) → (Nat → Int32) → (Nat → Int32) → (Nat → Int32) → (Nat → Int32) → Prop) (x5 x6 : Int32), wY_unpack_164 post J2 J82 (nI s) (nI n) (nI k) (nI b) x5 x6 (nI v) fr en (nI m) 0 st lf cd ta bg kc ob ol pb pn yp ki le go mk cb mb mly la ps pd pt kw kh kf kz ky th pl md cr gc lc lr wh od tg tr so bd wo be → wY_unpack_115 post J2 J82 (nI s) (nI n) (nI k) (nI b) x5 x6 fr en (nI m) 0 st lf cd ta bg kc ob ol pb pn yp ki le go mk cb mb mly la ps pd pt kw kh kf kz ky th pl md cr gc lc lr wh od tg tr so bd wo be := by
      intro post J2 J82 x5 x6 hp
      refine br_t (nI_le (a := 128) (by omega) (by omega)) ⟨by rw [e200]; exact vp_in_nI (by omega) (by omega), ?_⟩
      rw [e200, c200, hmb]
      refine nm_r (ar_2 m dd) ⟨pk_in s 4 hs, ?_⟩
      rw [cs, hpn]
      refine nm_r (ar_1 k0 m (dd + 1) hd) ?_
      by_cases z : dd + 1 ≤ m
      · have e1 : nI m - nI (dd + 1) = nI (m - (dd + 1)) := pk_sub z
        have c1 : (nI (m - (dd + 1))).toNatClampNeg = m - (dd + 1) := nI_clamp (by omega)
        rw [e1, c1, (vA z).2]
        exact br_f (nI_pos (by omega)) ⟨vp_in_nI (by omega) (by omega), hp⟩
      · have e2 : 64 * nI s + nI (k0 + m - (dd + 1)) = nI (64 * s + (k0 + m - (dd + 1))) := by rw [bn_mul2, nI_add]
        have c2 : (nI (64 * s + (k0 + m - (dd + 1)))).toNatClampNeg = 64 * s + (k0 + m - (dd + 1)) := nI_clamp (by omega)
        rw [e2, c2, vB (by omega)]
        exact br_t (pk_sneg (by omega) (by omega)) (br_f (nI_pos (by omega)) ⟨vp_in_nI (by omega) (by omega), hp⟩)
    by_cases m2 : m = 200
    · subst m2
      refine ⟨9, 200, pa, wo, Or.inr rfl, Nat.le_refl _, ag, ?_, ?_⟩
      · intro post f hf hp
        obtain ⟨f, rfl⟩ : ∃ f', f = f' + 1 := ⟨f - 1, by omega⟩
        exact br_f (nI_ge (by omega) (by omega)) (br_t rfl hp)
      · intro post f g hg h9 _
        obtain ⟨g, rfl⟩ : ∃ g', g = g' + 1 + 1 := ⟨g - 2, by omega⟩
        refine br_f (nI_ge (by omega) (by omega)) (br_t rfl (br_t (nI_le (a := 128) (by omega) (by omega)) (yv _ _ _ _ _ ?_)))
        refine br_t (nI_le (a := 128) (by omega) (by omega)) (br_t (nI_pos' (by omega)) ?_)
        refine br_t rfl (br_t rfl (br_f (by decide) (nm_r (nI_1 _) ?_)))
        exact yk_uend82 (e := 9) (ma := nI 200) (wo := wo) hn (by omega) (by omega) (by omega) (by omega) (by omega) (by omega) (h9 rfl) f g
    · obtain ⟨e, m', pa', wo', he, hm', ag', x1, y1⟩ := ih (m + 1) (upd pa m (nI v)) (upd wo m (nI v)) (by omega) (by omega) (by omega) (bk_Ag_up ag hv)
      refine ⟨e, m', pa', wo', he, hm', ag', ?_, ?_⟩
      · intro post f hf hp
        obtain ⟨f, rfl⟩ : ∃ f', f = f' + 1 := ⟨f - 1, by omega⟩
        have cm : (nI m).toNatClampNeg = m := nI_clamp (by omega)
        have nx := x1 post f (by omega) hp
        rw [eT] at nx
        have fin : ∀ z : Int32, z = nI v → wX_copyBack_90 post (wX_copyBack_25 post (nI s) (nI T) (nI (dd + 1)) (nI k0) f) (nI s) (nI T) (nI (dd + 1)) (nI k0) (nI (T - (N + 1))) z (nI m) (nI m) st lf cd bg gv ob ol pb pn xp fh fl fa mk cb mi mb ml pa kb kl kc th pl md cr hc hg hi ib il it qi qc gc lc lr co := by
          intro z hz
          refine ⟨vp_in_nI (by omega) (by omega), ?_⟩
          rw [cm, hz]
          exact nm_e (nm_r (nI_1 m) (nm_r (nI_1 _) nx))
        refine br_f (nI_ge (by omega) (by omega)) (br_f (fun x => m2 ((nI_eq (a := m) (b := 200) (by omega) (by omega)).mp x)) (nm_e ?_))
        by_cases z : dd + 1 ≤ m
        · have e1 : nI m - nI (dd + 1) = nI (m - (dd + 1)) := pk_sub z
          have c1 : (nI (m - (dd + 1))).toNatClampNeg = m - (dd + 1) := nI_clamp (by omega)
          rw [e1, c1]
          exact br_f (nI_pos (by omega)) ⟨vp_in_nI (by omega) (by omega), fin _ (vA z).1⟩
        · have e2 : nI s * 64 + nI k0 + (nI m - nI (dd + 1)) = nI (64 * s + (k0 + m - (dd + 1))) := by
            rw [bn_mul, nI_add, ar_1 _ _ _ (by omega)]
            exact congrArg nI (by omega)
          have c2 : (nI (64 * s + (k0 + m - (dd + 1)))).toNatClampNeg = 64 * s + (k0 + m - (dd + 1)) := nI_clamp (by omega)
          rw [e2, c2]
          exact br_t (pk_sneg (by omega) (by omega)) ⟨vp_in_nI (by omega) (by omega), fin _ (vB (by omega))⟩
      · intro post f g hg h9 h0
        obtain ⟨g, rfl⟩ : ∃ g', g = g' + 1 := ⟨g - 1, by omega⟩
        have cm : (nI m).toNatClampNeg = m := nI_clamp (by omega)
        have nx := y1 post f g (by omega) h9 h0
        rw [eT] at nx
        refine br_f (nI_ge (by omega) (by omega)) (br_t rfl (br_t (nI_le (a := 128) (by omega) (by omega)) (yv _ _ _ _ _ ?_)))
        refine br_t (nI_le (a := 128) (by omega) (by omega)) (br_t (nI_pos' (by omega)) ?_)
        refine br_f (fun x => m2 ((nI_eq (a := m) (b := 200) (by omega) (by omega)).mp x)) (br_t (by decide) ⟨vp_in_nI (by omega) (by omega), ?_⟩)
        rw [cm]
        exact nm_e (nm_r (nI_1 m) (nm_r (nI_1 _) nx))
end UNP
